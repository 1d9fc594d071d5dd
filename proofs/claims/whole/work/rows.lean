section
-- ===== PART A: goes FIRST, ahead of the names: the tables' words, and 'selects' of the private methods out of them =====
/-- a private method of a class that the tables say can be made, by its rows of tables_1 -/
def lw_okq (q : MethodName × Nat) : Prop := (q.1.cls ≠ "java/lang/invoke/MethodHandle" ∧ q.1.cls ≠ "java/lang/invoke/VarHandle") ∧ Cond.instantiable q.1.cls q.2 ∈ tables_1 ∧ Cond.privateMethod q.1 ∈ tables_1 ∧ Cond.instanceMethod q.1 ∈ tables_1
theorem lw_p0 : lw_okq (⟨"ScannedDigitsModel", "begins", "(I)V"⟩, 13) := ⟨⟨by decide +kernel, by decide +kernel⟩, List.mem_of_getElem? (i := 503) (by decide +kernel), List.mem_of_getElem? (i := 510) (by decide +kernel), List.mem_of_getElem? (i := 511) (by decide +kernel)⟩
theorem lw_p1 : lw_okq (⟨"ScannedDigitsModel", "put", "(III)V"⟩, 13) := ⟨⟨by decide +kernel, by decide +kernel⟩, List.mem_of_getElem? (i := 503) (by decide +kernel), List.mem_of_getElem? (i := 514) (by decide +kernel), List.mem_of_getElem? (i := 515) (by decide +kernel)⟩
theorem lw_p2 : lw_okq (⟨"ScannedDigitsModel", "renew", "(I)V"⟩, 13) := ⟨⟨by decide +kernel, by decide +kernel⟩, List.mem_of_getElem? (i := 503) (by decide +kernel), List.mem_of_getElem? (i := 518) (by decide +kernel), List.mem_of_getElem? (i := 519) (by decide +kernel)⟩
theorem lw_p3 : lw_okq (⟨"ScannedDigitsModel", "begin", "()V"⟩, 13) := ⟨⟨by decide +kernel, by decide +kernel⟩, List.mem_of_getElem? (i := 503) (by decide +kernel), List.mem_of_getElem? (i := 579) (by decide +kernel), List.mem_of_getElem? (i := 580) (by decide +kernel)⟩
theorem lw_p4 : lw_okq (⟨"ScannedDigitsModel", "done", "(I)I"⟩, 13) := ⟨⟨by decide +kernel, by decide +kernel⟩, List.mem_of_getElem? (i := 503) (by decide +kernel), List.mem_of_getElem? (i := 583) (by decide +kernel), List.mem_of_getElem? (i := 584) (by decide +kernel)⟩
theorem lw_p5 : lw_okq (⟨"ScannedDigitsModel", "endFrame", "()V"⟩, 13) := ⟨⟨by decide +kernel, by decide +kernel⟩, List.mem_of_getElem? (i := 503) (by decide +kernel), List.mem_of_getElem? (i := 591) (by decide +kernel), List.mem_of_getElem? (i := 592) (by decide +kernel)⟩
theorem lw_p6 : lw_okq (⟨"ScannedDigitsModel", "noDigit", "(I)Z"⟩, 13) := ⟨⟨by decide +kernel, by decide +kernel⟩, List.mem_of_getElem? (i := 503) (by decide +kernel), List.mem_of_getElem? (i := 599) (by decide +kernel), List.mem_of_getElem? (i := 600) (by decide +kernel)⟩
theorem lw_p7 : lw_okq (⟨"ScannedDigitsModel", "of", "(II)I"⟩, 13) := ⟨⟨by decide +kernel, by decide +kernel⟩, List.mem_of_getElem? (i := 503) (by decide +kernel), List.mem_of_getElem? (i := 603) (by decide +kernel), List.mem_of_getElem? (i := 604) (by decide +kernel)⟩
theorem lw_p8 : lw_okq (⟨"ScannedDigitsModel", "frameLength", "()I"⟩, 13) := ⟨⟨by decide +kernel, by decide +kernel⟩, List.mem_of_getElem? (i := 503) (by decide +kernel), List.mem_of_getElem? (i := 607) (by decide +kernel), List.mem_of_getElem? (i := 608) (by decide +kernel)⟩
theorem lw_p9 : lw_okq (⟨"ScannedDigitsModel", "beginOf", "(I)I"⟩, 13) := ⟨⟨by decide +kernel, by decide +kernel⟩, List.mem_of_getElem? (i := 503) (by decide +kernel), List.mem_of_getElem? (i := 611) (by decide +kernel), List.mem_of_getElem? (i := 612) (by decide +kernel)⟩
theorem lw_p10 : lw_okq (⟨"ScannedDigitsModel", "litPart", "(I)I"⟩, 13) := ⟨⟨by decide +kernel, by decide +kernel⟩, List.mem_of_getElem? (i := 503) (by decide +kernel), List.mem_of_getElem? (i := 619) (by decide +kernel), List.mem_of_getElem? (i := 620) (by decide +kernel)⟩
theorem lw_p11 : lw_okq (⟨"ScannedDigitsModel", "digitsIn", "(I)I"⟩, 13) := ⟨⟨by decide +kernel, by decide +kernel⟩, List.mem_of_getElem? (i := 503) (by decide +kernel), List.mem_of_getElem? (i := 639) (by decide +kernel), List.mem_of_getElem? (i := 640) (by decide +kernel)⟩
theorem lw_p12 : lw_okq (⟨"ScannedDigitsModel", "brokenOf", "(I)I"⟩, 13) := ⟨⟨by decide +kernel, by decide +kernel⟩, List.mem_of_getElem? (i := 503) (by decide +kernel), List.mem_of_getElem? (i := 652) (by decide +kernel), List.mem_of_getElem? (i := 653) (by decide +kernel)⟩
theorem lw_p13 : lw_okq (⟨"ScannedDigitsModel", "tick", "()I"⟩, 13) := ⟨⟨by decide +kernel, by decide +kernel⟩, List.mem_of_getElem? (i := 503) (by decide +kernel), List.mem_of_getElem? (i := 664) (by decide +kernel), List.mem_of_getElem? (i := 665) (by decide +kernel)⟩
theorem lw_p14 : lw_okq (⟨"ScannedDigitsModel", "slotNow", "()I"⟩, 13) := ⟨⟨by decide +kernel, by decide +kernel⟩, List.mem_of_getElem? (i := 503) (by decide +kernel), List.mem_of_getElem? (i := 668) (by decide +kernel), List.mem_of_getElem? (i := 669) (by decide +kernel)⟩
theorem lw_p15 : lw_okq (⟨"ScannedDigitsModel", "litNow", "(I)I"⟩, 13) := ⟨⟨by decide +kernel, by decide +kernel⟩, List.mem_of_getElem? (i := 503) (by decide +kernel), List.mem_of_getElem? (i := 672) (by decide +kernel), List.mem_of_getElem? (i := 673) (by decide +kernel)⟩
def lw_privs_1 : List (MethodName × Nat) := [(⟨"ScannedDigitsModel", "begins", "(I)V"⟩, 13), (⟨"ScannedDigitsModel", "put", "(III)V"⟩, 13), (⟨"ScannedDigitsModel", "renew", "(I)V"⟩, 13), (⟨"ScannedDigitsModel", "begin", "()V"⟩, 13), (⟨"ScannedDigitsModel", "done", "(I)I"⟩, 13), (⟨"ScannedDigitsModel", "endFrame", "()V"⟩, 13), (⟨"ScannedDigitsModel", "noDigit", "(I)Z"⟩, 13), (⟨"ScannedDigitsModel", "of", "(II)I"⟩, 13), (⟨"ScannedDigitsModel", "frameLength", "()I"⟩, 13), (⟨"ScannedDigitsModel", "beginOf", "(I)I"⟩, 13), (⟨"ScannedDigitsModel", "litPart", "(I)I"⟩, 13), (⟨"ScannedDigitsModel", "digitsIn", "(I)I"⟩, 13), (⟨"ScannedDigitsModel", "brokenOf", "(I)I"⟩, 13), (⟨"ScannedDigitsModel", "tick", "()I"⟩, 13), (⟨"ScannedDigitsModel", "slotNow", "()I"⟩, 13), (⟨"ScannedDigitsModel", "litNow", "(I)I"⟩, 13)]
theorem lw_r1 : ∀ q ∈ lw_privs_1, lw_okq q := List.forall_mem_cons.mpr ⟨lw_p0, List.forall_mem_cons.mpr ⟨lw_p1, List.forall_mem_cons.mpr ⟨lw_p2, List.forall_mem_cons.mpr ⟨lw_p3, List.forall_mem_cons.mpr ⟨lw_p4, List.forall_mem_cons.mpr ⟨lw_p5, List.forall_mem_cons.mpr ⟨lw_p6, List.forall_mem_cons.mpr ⟨lw_p7, List.forall_mem_cons.mpr ⟨lw_p8, List.forall_mem_cons.mpr ⟨lw_p9, List.forall_mem_cons.mpr ⟨lw_p10, List.forall_mem_cons.mpr ⟨lw_p11, List.forall_mem_cons.mpr ⟨lw_p12, List.forall_mem_cons.mpr ⟨lw_p13, List.forall_mem_cons.mpr ⟨lw_p14, List.forall_mem_cons.mpr ⟨lw_p15, fun _ h => absurd h List.not_mem_nil⟩⟩⟩⟩⟩⟩⟩⟩⟩⟩⟩⟩⟩⟩⟩⟩
theorem lw_p16 : lw_okq (⟨"ScannedDigitsModel", "isDriven", "(I)Z"⟩, 13) := ⟨⟨by decide +kernel, by decide +kernel⟩, List.mem_of_getElem? (i := 503) (by decide +kernel), List.mem_of_getElem? (i := 676) (by decide +kernel), List.mem_of_getElem? (i := 677) (by decide +kernel)⟩
theorem lw_p17 : lw_okq (⟨"ScannedDigitsModel", "isOn", "(I)Z"⟩, 13) := ⟨⟨by decide +kernel, by decide +kernel⟩, List.mem_of_getElem? (i := 503) (by decide +kernel), List.mem_of_getElem? (i := 680) (by decide +kernel), List.mem_of_getElem? (i := 681) (by decide +kernel)⟩
theorem lw_p18 : lw_okq (⟨"ScannedDigitsModel", "light", "(IIZ)V"⟩, 13) := ⟨⟨by decide +kernel, by decide +kernel⟩, List.mem_of_getElem? (i := 503) (by decide +kernel), List.mem_of_getElem? (i := 684) (by decide +kernel), List.mem_of_getElem? (i := 685) (by decide +kernel)⟩
theorem lw_p19 : lw_okq (⟨"ScannedDigitsModel", "darker", "(I)I"⟩, 13) := ⟨⟨by decide +kernel, by decide +kernel⟩, List.mem_of_getElem? (i := 503) (by decide +kernel), List.mem_of_getElem? (i := 691) (by decide +kernel), List.mem_of_getElem? (i := 692) (by decide +kernel)⟩
theorem lw_p20 : lw_okq (⟨"ScannedDigitsModel", "seenOf", "(I)I"⟩, 13) := ⟨⟨by decide +kernel, by decide +kernel⟩, List.mem_of_getElem? (i := 503) (by decide +kernel), List.mem_of_getElem? (i := 721) (by decide +kernel), List.mem_of_getElem? (i := 722) (by decide +kernel)⟩
theorem lw_p21 : lw_okq (⟨"ScannedDigitsModel", "glowOf", "(I)I"⟩, 13) := ⟨⟨by decide +kernel, by decide +kernel⟩, List.mem_of_getElem? (i := 503) (by decide +kernel), List.mem_of_getElem? (i := 725) (by decide +kernel), List.mem_of_getElem? (i := 726) (by decide +kernel)⟩
theorem lw_p22 : lw_okq (⟨"ScannedDigitsModel", "charOf", "(I)I"⟩, 13) := ⟨⟨by decide +kernel, by decide +kernel⟩, List.mem_of_getElem? (i := 503) (by decide +kernel), List.mem_of_getElem? (i := 729) (by decide +kernel), List.mem_of_getElem? (i := 730) (by decide +kernel)⟩
theorem lw_p23 : lw_okq (⟨"ScannedDigitsModel", "goBack", "()V"⟩, 13) := ⟨⟨by decide +kernel, by decide +kernel⟩, List.mem_of_getElem? (i := 503) (by decide +kernel), List.mem_of_getElem? (i := 741) (by decide +kernel), List.mem_of_getElem? (i := 742) (by decide +kernel)⟩
theorem lw_p24 : lw_okq (⟨"ScannedDigitsModel", "broken", "()I"⟩, 13) := ⟨⟨by decide +kernel, by decide +kernel⟩, List.mem_of_getElem? (i := 503) (by decide +kernel), List.mem_of_getElem? (i := 766) (by decide +kernel), List.mem_of_getElem? (i := 767) (by decide +kernel)⟩
def lw_privs_2 : List (MethodName × Nat) := [(⟨"ScannedDigitsModel", "isDriven", "(I)Z"⟩, 13), (⟨"ScannedDigitsModel", "isOn", "(I)Z"⟩, 13), (⟨"ScannedDigitsModel", "light", "(IIZ)V"⟩, 13), (⟨"ScannedDigitsModel", "darker", "(I)I"⟩, 13), (⟨"ScannedDigitsModel", "seenOf", "(I)I"⟩, 13), (⟨"ScannedDigitsModel", "glowOf", "(I)I"⟩, 13), (⟨"ScannedDigitsModel", "charOf", "(I)I"⟩, 13), (⟨"ScannedDigitsModel", "goBack", "()V"⟩, 13), (⟨"ScannedDigitsModel", "broken", "()I"⟩, 13)]
theorem lw_r2 : ∀ q ∈ lw_privs_2, lw_okq q := List.forall_mem_cons.mpr ⟨lw_p16, List.forall_mem_cons.mpr ⟨lw_p17, List.forall_mem_cons.mpr ⟨lw_p18, List.forall_mem_cons.mpr ⟨lw_p19, List.forall_mem_cons.mpr ⟨lw_p20, List.forall_mem_cons.mpr ⟨lw_p21, List.forall_mem_cons.mpr ⟨lw_p22, List.forall_mem_cons.mpr ⟨lw_p23, List.forall_mem_cons.mpr ⟨lw_p24, fun _ h => absurd h List.not_mem_nil⟩⟩⟩⟩⟩⟩⟩⟩⟩
def lw_privs : List (MethodName × Nat) := lw_privs_1 ++ (lw_privs_2)
def lw_tbl : List Cond := k2_sels lw_privs ++ tables_1
theorem lw_privs_ok : ∀ q ∈ lw_privs, lw_okq q := by
  show ∀ q ∈ lw_privs_1 ++ (lw_privs_2), lw_okq q
  exact List.forall_mem_append.mpr ⟨lw_r1, lw_r2⟩
/-- the streams that the claim lets the run draw from -/
abbrev lw_cs : List Choice := [Jvm.Choice.named "NaN.bits"]
theorem lw_bits : nanBits ∈ lw_cs := by first | decide | exact List.mem_cons_self | simp [lw_cs, nanBits]
-- ===== end of PART A; then your names; then what follows =====
end
section
/-! ===== BEGIN words of one list among another's, by their places ===== -/
theorem goodIn_r {big : List Cond} (ws : List Cond) (ps : List Nat) (hp : ws = ps.filterMap (fun i => big[i]?)) (h : ws.all goodWord = true) : GoodIn big ws := by
  intro w hw
  have h1 := List.all_eq_true.mp h w hw
  rw [hp] at hw
  obtain ⟨i, -, hi⟩ := List.mem_filterMap.mp hw
  have hm : w ∈ big := by first | exact List.mem_of_getElem? hi | exact List.getElem?_mem hi
  exact ⟨hm, good_of_word h1⟩
theorem goodIn_app {big a b : List Cond} (ha : GoodIn big a) (hb : GoodIn big b) : GoodIn big (a ++ b) := fun w h => (List.mem_append.mp h).elim (ha w) (hb w)
theorem goodIn_ca {big a b : List Cond} {c : Cond} (ha : GoodIn big (c :: a)) (hb : GoodIn big b) : GoodIn big (c :: (a ++ b)) := fun w h => (List.mem_cons.mp h).elim (fun e => ha w (List.mem_cons.mpr (Or.inl e))) (fun h => (List.mem_append.mp h).elim (fun h => ha w (List.mem_cons.mpr (Or.inr h))) (hb w))
theorem goodIn_sub {big ws : List Cond} (hm : ∀ w ∈ ws, w ∈ big) (h : ws.all goodWord = true) : GoodIn big ws := fun w hw => ⟨hm w hw, good_of_word (List.all_eq_true.mp h w hw)⟩
/-! ===== END ===== -/

/-! ===== BEGIN printed: names, fields, word lists, decode rows ===== -/
def RX0 : String := "ScannedDigits$Digit"
def TX0 : u_T := fun k => match k with
  | 0 => ("ScannedDigits$Digit", "width", "I", false)
  | 1 => ("ScannedDigits$Digit", "guard", "I", false)
  | 2 => ("ScannedDigits$Digit", "brightness", "I", false)
  | 3 => ("ScannedDigits$Digit", "pattern", "I", false)
  | 4 => ("ScannedDigits$Digit", "group", "I", false)
  | 5 => ("ScannedDigits$Digit", "drivenTicks", "I", false)
  | 6 => ("ScannedDigits$Digit", "broken", "I", false)
  | 7 => ("ScannedDigits$Digit", "glow", "[I", true)
  | _ => ("ScannedDigits$Digit", "use", "[I", true)
def tyX0 : Nat → FieldType := fun k => match k with
  | 0 => .int
  | 1 => .int
  | 2 => .int
  | 3 => .int
  | 4 => .int
  | 5 => .int
  | 6 => .int
  | 7 => .array .int
  | _ => .array .int
abbrev wsX00 : List Cond := u_ws RX0 TX0 9
theorem nmX0 : ∀ a, a < 9 → ∀ b, b < 9 → a ≠ b → (TX0 a).2.1 ≠ (TX0 b).2.1 := by decide +kernel
theorem tyX0_ok : ∀ k, k < 9 → parseFieldDescriptor (TX0 k).2.2.1 = some (tyX0 k) := by decide +kernel
abbrev cX0_init : ByteArray := prog_2_method_1_code
def yX0_init : MethodName := ⟨RX0, "<init>", "()V"⟩
abbrev cX0_makeNew : ByteArray := prog_2_method_2_code
def yX0_makeNew : MethodName := ⟨RX0, "makeNew", "()V"⟩
abbrev cX0_renewSegments : ByteArray := prog_2_method_3_code
def yX0_renewSegments : MethodName := ⟨RX0, "renewSegments", "()V"⟩
abbrev cX0_copyFrom : ByteArray := prog_2_method_4_code
def yX0_copyFrom : MethodName := ⟨RX0, "copyFrom", "(LScannedDigits$Digit;)V"⟩
abbrev cX0_litPart : ByteArray := prog_2_method_5_code
def yX0_litPart : MethodName := ⟨RX0, "litPart", "()I"⟩
abbrev cX0_litPartAt : ByteArray := prog_2_method_6_code
def yX0_litPartAt : MethodName := ⟨RX0, "litPartAt", "(I)I"⟩
abbrev cX0_runTick : ByteArray := prog_2_method_7_code
def yX0_runTick : MethodName := ⟨RX0, "runTick", "(III)V"⟩
abbrev cX0_seen : ByteArray := prog_2_method_8_code
def yX0_seen : MethodName := ⟨RX0, "seen", "(I)I"⟩
abbrev cX0_glowSum : ByteArray := prog_2_method_9_code
def yX0_glowSum : MethodName := ⟨RX0, "glowSum", "()I"⟩
def RX1 : String := "ScannedDigits$History"
def TX1 : u_T := fun k => match k with
  | 0 => ("ScannedDigits$History", "rows", "[LScannedDigits$State;", true)
  | 1 => ("ScannedDigits$History", "next", "I", false)
  | _ => ("ScannedDigits$History", "size", "I", false)
def tyX1 : Nat → FieldType := fun k => match k with
  | 0 => .array (.object "ScannedDigits$State")
  | 1 => .int
  | _ => .int
abbrev wsX10 : List Cond := u_ws RX1 TX1 3
theorem nmX1 : ∀ a, a < 3 → ∀ b, b < 3 → a ≠ b → (TX1 a).2.1 ≠ (TX1 b).2.1 := by decide +kernel
theorem tyX1_ok : ∀ k, k < 3 → parseFieldDescriptor (TX1 k).2.2.1 = some (tyX1 k) := by decide +kernel
abbrev cX1_init : ByteArray := prog_3_method_1_code
def yX1_init : MethodName := ⟨RX1, "<init>", "()V"⟩
abbrev cX1_record : ByteArray := prog_3_method_2_code
def yX1_record : MethodName := ⟨RX1, "record", "(LScannedDigits$State;)V"⟩
abbrev cX1_takeBack : ByteArray := prog_3_method_3_code
def yX1_takeBack : MethodName := ⟨RX1, "takeBack", "(LScannedDigits$State;)V"⟩
def RX2 : String := "ScannedDigits$Snapshot"
def TX2 : u_T := fun k => match k with
  | 0 => ("ScannedDigits$Snapshot", "state", "LScannedDigits$State;", true)
  | _ => ("ScannedDigits$Snapshot", "isTaken", "Z", false)
def tyX2 : Nat → FieldType := fun k => match k with
  | 0 => .object "ScannedDigits$State"
  | _ => .boolean
abbrev wsX20 : List Cond := u_ws RX2 TX2 2
theorem nmX2 : ∀ a, a < 2 → ∀ b, b < 2 → a ≠ b → (TX2 a).2.1 ≠ (TX2 b).2.1 := by decide +kernel
theorem tyX2_ok : ∀ k, k < 2 → parseFieldDescriptor (TX2 k).2.2.1 = some (tyX2 k) := by decide +kernel
abbrev cX2_init : ByteArray := prog_4_method_1_code
def yX2_init : MethodName := ⟨RX2, "<init>", "()V"⟩
def RX3 : String := "ScannedDigits$State"
def TX3 : u_T := fun k => match k with
  | 0 => ("ScannedDigits$State", "digits", "[LScannedDigits$Digit;", true)
  | 1 => ("ScannedDigits$State", "digitCount", "I", false)
  | 2 => ("ScannedDigits$State", "on", "[I", true)
  | 3 => ("ScannedDigits$State", "off", "[I", true)
  | 4 => ("ScannedDigits$State", "settings", "[I", true)
  | 5 => ("ScannedDigits$State", "time", "I", false)
  | 6 => ("ScannedDigits$State", "frame", "I", false)
  | 7 => ("ScannedDigits$State", "frameTicks", "I", false)
  | 8 => ("ScannedDigits$State", "testFrames", "I", false)
  | 9 => ("ScannedDigits$State", "drivenTicks", "I", false)
  | 10 => ("ScannedDigits$State", "current", "F", false)
  | 11 => ("ScannedDigits$State", "peak", "F", false)
  | _ => ("ScannedDigits$State", "charge", "F", false)
def tyX3 : Nat → FieldType := fun k => match k with
  | 0 => .array (.object "ScannedDigits$Digit")
  | 1 => .int
  | 2 => .array .int
  | 3 => .array .int
  | 4 => .array .int
  | 5 => .int
  | 6 => .int
  | 7 => .int
  | 8 => .int
  | 9 => .int
  | 10 => .float
  | 11 => .float
  | _ => .float
abbrev wsX30 : List Cond := u_ws RX3 TX3 13
theorem nmX3 : ∀ a, a < 13 → ∀ b, b < 13 → a ≠ b → (TX3 a).2.1 ≠ (TX3 b).2.1 := by decide +kernel
theorem tyX3_ok : ∀ k, k < 13 → parseFieldDescriptor (TX3 k).2.2.1 = some (tyX3 k) := by decide +kernel
abbrev cX3_init : ByteArray := prog_5_method_1_code
def yX3_init : MethodName := ⟨RX3, "<init>", "()V"⟩
abbrev cX3_copyFrom : ByteArray := prog_5_method_2_code
def yX3_copyFrom : MethodName := ⟨RX3, "copyFrom", "(LScannedDigits$State;)V"⟩
abbrev cX3_find : ByteArray := prog_5_method_3_code
def yX3_find : MethodName := ⟨RX3, "find", "(I)LScannedDigits$Digit;"⟩
abbrev cX3_changeDigitCount : ByteArray := prog_5_method_4_code
def yX3_changeDigitCount : MethodName := ⟨RX3, "changeDigitCount", "(I)V"⟩
abbrev cX3_changeWidth : ByteArray := prog_5_method_5_code
def yX3_changeWidth : MethodName := ⟨RX3, "changeWidth", "(LScannedDigits$Digit;I)V"⟩
abbrev cX3_beginFrame : ByteArray := prog_5_method_6_code
def yX3_beginFrame : MethodName := ⟨RX3, "beginFrame", "()V"⟩
abbrev cX3_takePatterns : ByteArray := prog_5_method_7_code
def yX3_takePatterns : MethodName := ⟨RX3, "takePatterns", "([I)V"⟩
abbrev cX3_frameLength : ByteArray := prog_5_method_8_code
def yX3_frameLength : MethodName := ⟨RX3, "frameLength", "()I"⟩
abbrev cX3_slotStart : ByteArray := prog_5_method_9_code
def yX3_slotStart : MethodName := ⟨RX3, "slotStart", "(I)I"⟩
abbrev cX3_slotNow : ByteArray := prog_5_method_10_code
def yX3_slotNow : MethodName := ⟨RX3, "slotNow", "()I"⟩
abbrev cX3_isGroupOn : ByteArray := prog_5_method_11_code
def yX3_isGroupOn : MethodName := ⟨RX3, "isGroupOn", "(I)Z"⟩
abbrev cX3_digitsInGroup : ByteArray := prog_5_method_12_code
def yX3_digitsInGroup : MethodName := ⟨RX3, "digitsInGroup", "(I)I"⟩
abbrev cX3_brokenSegments : ByteArray := prog_5_method_13_code
def yX3_brokenSegments : MethodName := ⟨RX3, "brokenSegments", "()I"⟩
abbrev cX3_isDriven : ByteArray := prog_5_method_14_code
def yX3_isDriven : MethodName := ⟨RX3, "isDriven", "(I)Z"⟩
abbrev cX3_litNext : ByteArray := prog_5_method_15_code
def yX3_litNext : MethodName := ⟨RX3, "litNext", "()I"⟩
abbrev cX3_runTicks : ByteArray := prog_5_method_16_code
def yX3_runTicks : MethodName := ⟨RX3, "runTicks", "(I)I"⟩
abbrev cX3_runTick : ByteArray := prog_5_method_17_code
def yX3_runTick : MethodName := ⟨RX3, "runTick", "()I"⟩
abbrev cX3_runCurrent : ByteArray := prog_5_method_18_code
def yX3_runCurrent : MethodName := ⟨RX3, "runCurrent", "(I)V"⟩
def RX4 : String := "ScannedDigits$Text"
def TX4 : u_T := fun k => match k with
  | 0 => ("ScannedDigits$Text", "characters", "[C", true)
  | 1 => ("ScannedDigits$Text", "length", "I", false)
  | 2 => ("ScannedDigits$Text", "patterns", "[I", true)
  | _ => ("ScannedDigits$Text", "needed", "I", false)
def tyX4 : Nat → FieldType := fun k => match k with
  | 0 => .array .char
  | 1 => .int
  | 2 => .array .int
  | _ => .int
abbrev wsX40 : List Cond := u_ws RX4 TX4 4
theorem nmX4 : ∀ a, a < 4 → ∀ b, b < 4 → a ≠ b → (TX4 a).2.1 ≠ (TX4 b).2.1 := by decide +kernel
theorem tyX4_ok : ∀ k, k < 4 → parseFieldDescriptor (TX4 k).2.2.1 = some (tyX4 k) := by decide +kernel
abbrev cX4_init : ByteArray := prog_6_method_1_code
def yX4_init : MethodName := ⟨RX4, "<init>", "()V"⟩
abbrev cX4_isFull : ByteArray := prog_6_method_2_code
def yX4_isFull : MethodName := ⟨RX4, "isFull", "()Z"⟩
abbrev cX4_append : ByteArray := prog_6_method_3_code
def yX4_append : MethodName := ⟨RX4, "append", "(C)V"⟩
abbrev cX4_layOut : ByteArray := prog_6_method_4_code
def yX4_layOut : MethodName := ⟨RX4, "layOut", "(I)I"⟩
def RX5 : String := "ScannedDigits"
def TX5 : u_T := fun k => match k with
  | 0 => ("ScannedDigits", "now", "LScannedDigits$State;", true)
  | 1 => ("ScannedDigits", "future", "LScannedDigits$State;", true)
  | 2 => ("ScannedDigits", "history", "LScannedDigits$History;", true)
  | 3 => ("ScannedDigits", "snapshots", "[LScannedDigits$Snapshot;", true)
  | _ => ("ScannedDigits", "text", "LScannedDigits$Text;", true)
def tyX5 : Nat → FieldType := fun k => match k with
  | 0 => .object "ScannedDigits$State"
  | 1 => .object "ScannedDigits$State"
  | 2 => .object "ScannedDigits$History"
  | 3 => .array (.object "ScannedDigits$Snapshot")
  | _ => .object "ScannedDigits$Text"
abbrev wsX50 : List Cond := u_ws RX5 TX5 5
theorem nmX5 : ∀ a, a < 5 → ∀ b, b < 5 → a ≠ b → (TX5 a).2.1 ≠ (TX5 b).2.1 := by decide +kernel
theorem tyX5_ok : ∀ k, k < 5 → parseFieldDescriptor (TX5 k).2.2.1 = some (tyX5 k) := by decide +kernel
abbrev cX5_init : ByteArray := prog_1_method_1_code
def yX5_init : MethodName := ⟨RX5, "<init>", "()V"⟩
abbrev cX5_setDigits : ByteArray := prog_1_method_2_code
def yX5_setDigits : MethodName := ⟨RX5, "setDigits", "(I)I"⟩
abbrev cX5_setWidth : ByteArray := prog_1_method_3_code
def yX5_setWidth : MethodName := ⟨RX5, "setWidth", "(II)I"⟩
abbrev cX5_setGuard : ByteArray := prog_1_method_4_code
def yX5_setGuard : MethodName := ⟨RX5, "setGuard", "(II)I"⟩
abbrev cX5_setBrightness : ByteArray := prog_1_method_5_code
def yX5_setBrightness : MethodName := ⟨RX5, "setBrightness", "(II)I"⟩
abbrev cX5_setPattern : ByteArray := prog_1_method_6_code
def yX5_setPattern : MethodName := ⟨RX5, "setPattern", "(II)I"⟩
abbrev cX5_setGroup : ByteArray := prog_1_method_7_code
def yX5_setGroup : MethodName := ⟨RX5, "setGroup", "(II)I"⟩
abbrev cX5_setBlink : ByteArray := prog_1_method_8_code
def yX5_setBlink : MethodName := ⟨RX5, "setBlink", "(III)I"⟩
abbrev cX5_set : ByteArray := prog_1_method_9_code
def yX5_set : MethodName := ⟨RX5, "set", "(II)I"⟩
abbrev cX5_replace : ByteArray := prog_1_method_10_code
def yX5_replace : MethodName := ⟨RX5, "replace", "(I)I"⟩
abbrev cX5_test : ByteArray := prog_1_method_11_code
def yX5_test : MethodName := ⟨RX5, "test", "(I)I"⟩
abbrev cX5_pass : ByteArray := prog_1_method_12_code
def yX5_pass : MethodName := ⟨RX5, "pass", "(I)I"⟩
abbrev cX5_passFrames : ByteArray := prog_1_method_13_code
def yX5_passFrames : MethodName := ⟨RX5, "passFrames", "(I)I"⟩
abbrev cX5_type : ByteArray := prog_1_method_14_code
def yX5_type : MethodName := ⟨RX5, "type", "(C)I"⟩
abbrev cX5_clearText : ByteArray := prog_1_method_15_code
def yX5_clearText : MethodName := ⟨RX5, "clearText", "()I"⟩
abbrev cX5_show : ByteArray := prog_1_method_16_code
def yX5_show : MethodName := ⟨RX5, "show", "()I"⟩
abbrev cX5_undo : ByteArray := prog_1_method_17_code
def yX5_undo : MethodName := ⟨RX5, "undo", "()I"⟩
abbrev cX5_keep : ByteArray := prog_1_method_18_code
def yX5_keep : MethodName := ⟨RX5, "keep", "(I)I"⟩
abbrev cX5_restore : ByteArray := prog_1_method_19_code
def yX5_restore : MethodName := ⟨RX5, "restore", "(I)I"⟩
abbrev cX5_digit : ByteArray := prog_1_method_20_code
def yX5_digit : MethodName := ⟨RX5, "digit", "(II)I"⟩
abbrev cX5_segment : ByteArray := prog_1_method_21_code
def yX5_segment : MethodName := ⟨RX5, "segment", "(III)I"⟩
abbrev cX5_litIn : ByteArray := prog_1_method_22_code
def yX5_litIn : MethodName := ⟨RX5, "litIn", "(II)I"⟩
abbrev cX5_steadyGlow : ByteArray := prog_1_method_23_code
def yX5_steadyGlow : MethodName := ⟨RX5, "steadyGlow", "(I)I"⟩
abbrev cX5_current : ByteArray := prog_1_method_24_code
def yX5_current : MethodName := ⟨RX5, "current", "(I)F"⟩
abbrev cX5_thousandths : ByteArray := prog_1_method_25_code
def yX5_thousandths : MethodName := ⟨RX5, "thousandths", "(I)I"⟩
abbrev cX5_duty : ByteArray := prog_1_method_26_code
def yX5_duty : MethodName := ⟨RX5, "duty", "(I)F"⟩
abbrev cX5_count : ByteArray := prog_1_method_27_code
def yX5_count : MethodName := ⟨RX5, "count", "(I)I"⟩
abbrev cX5_group : ByteArray := prog_1_method_28_code
def yX5_group : MethodName := ⟨RX5, "group", "(II)I"⟩
abbrev cX5_isWithin : ByteArray := prog_1_method_29_code
def yX5_isWithin : MethodName := ⟨RX5, "isWithin", "(III)Z"⟩
abbrev cX5_characterOf : ByteArray := prog_1_method_30_code
def yX5_characterOf : MethodName := ⟨RX5, "characterOf", "(I)I"⟩
abbrev cX5_patternOf : ByteArray := prog_1_method_31_code
def yX5_patternOf : MethodName := ⟨RX5, "patternOf", "(C)I"⟩
abbrev cX5_glowLit : ByteArray := prog_1_method_32_code
def yX5_glowLit : MethodName := ⟨RX5, "glowLit", "(I)I"⟩
abbrev cX5_glowUnlit : ByteArray := prog_1_method_33_code
def yX5_glowUnlit : MethodName := ⟨RX5, "glowUnlit", "(II)I"⟩
abbrev cX5_glowOfFrames : ByteArray := prog_1_method_34_code
def yX5_glowOfFrames : MethodName := ⟨RX5, "glowOfFrames", "(III)I"⟩
def RX6 : String := "ScannedDigitsModel"
def TX6 : u_T := fun k => match k with
  | 0 => ("ScannedDigitsModel", "row", "[I", true)
  | 1 => ("ScannedDigitsModel", "flow", "[F", true)
  | 2 => ("ScannedDigitsModel", "scratch", "[I", true)
  | 3 => ("ScannedDigitsModel", "scratchFlow", "[F", true)
  | 4 => ("ScannedDigitsModel", "history", "[I", true)
  | 5 => ("ScannedDigitsModel", "historyFlow", "[F", true)
  | 6 => ("ScannedDigitsModel", "kept", "I", false)
  | 7 => ("ScannedDigitsModel", "slots", "[I", true)
  | 8 => ("ScannedDigitsModel", "slotFlow", "[F", true)
  | 9 => ("ScannedDigitsModel", "isKept", "[Z", true)
  | 10 => ("ScannedDigitsModel", "typed", "I", false)
  | 11 => ("ScannedDigitsModel", "text", "[C", true)
  | _ => ("ScannedDigitsModel", "read", "[I", true)
def tyX6 : Nat → FieldType := fun k => match k with
  | 0 => .array .int
  | 1 => .array .float
  | 2 => .array .int
  | 3 => .array .float
  | 4 => .array .int
  | 5 => .array .float
  | 6 => .int
  | 7 => .array .int
  | 8 => .array .float
  | 9 => .array .boolean
  | 10 => .int
  | 11 => .array .char
  | _ => .array .int
abbrev wsX60 : List Cond := u_ws RX6 TX6 13
theorem nmX6 : ∀ a, a < 13 → ∀ b, b < 13 → a ≠ b → (TX6 a).2.1 ≠ (TX6 b).2.1 := by decide +kernel
theorem tyX6_ok : ∀ k, k < 13 → parseFieldDescriptor (TX6 k).2.2.1 = some (tyX6 k) := by decide +kernel
abbrev cX6_init : ByteArray := prog_8_method_1_code
def yX6_init : MethodName := ⟨RX6, "<init>", "()V"⟩
abbrev cX6_in : ByteArray := prog_8_method_2_code
def yX6_in : MethodName := ⟨RX6, "in", "(III)Z"⟩
abbrev cX6_begin : ByteArray := prog_8_method_3_code
def yX6_begin : MethodName := ⟨RX6, "begin", "()V"⟩
abbrev cX6_goBack : ByteArray := prog_8_method_4_code
def yX6_goBack : MethodName := ⟨RX6, "goBack", "()V"⟩
abbrev cX6_done : ByteArray := prog_8_method_5_code
def yX6_done : MethodName := ⟨RX6, "done", "(I)I"⟩
abbrev cX6_undo : ByteArray := prog_8_method_6_code
def yX6_undo : MethodName := ⟨RX6, "undo", "()I"⟩
abbrev cX6_keep : ByteArray := prog_8_method_7_code
def yX6_keep : MethodName := ⟨RX6, "keep", "(I)I"⟩
abbrev cX6_restore : ByteArray := prog_8_method_8_code
def yX6_restore : MethodName := ⟨RX6, "restore", "(I)I"⟩
abbrev cX6_of : ByteArray := prog_8_method_9_code
def yX6_of : MethodName := ⟨RX6, "of", "(II)I"⟩
abbrev cX6_put : ByteArray := prog_8_method_10_code
def yX6_put : MethodName := ⟨RX6, "put", "(III)V"⟩
abbrev cX6_begins : ByteArray := prog_8_method_11_code
def yX6_begins : MethodName := ⟨RX6, "begins", "(I)V"⟩
abbrev cX6_renew : ByteArray := prog_8_method_12_code
def yX6_renew : MethodName := ⟨RX6, "renew", "(I)V"⟩
abbrev cX6_noDigit : ByteArray := prog_8_method_13_code
def yX6_noDigit : MethodName := ⟨RX6, "noDigit", "(I)Z"⟩
abbrev cX6_litPart : ByteArray := prog_8_method_14_code
def yX6_litPart : MethodName := ⟨RX6, "litPart", "(I)I"⟩
abbrev cX6_beginOf : ByteArray := prog_8_method_15_code
def yX6_beginOf : MethodName := ⟨RX6, "beginOf", "(I)I"⟩
abbrev cX6_frameLength : ByteArray := prog_8_method_16_code
def yX6_frameLength : MethodName := ⟨RX6, "frameLength", "()I"⟩
abbrev cX6_endFrame : ByteArray := prog_8_method_17_code
def yX6_endFrame : MethodName := ⟨RX6, "endFrame", "()V"⟩
abbrev cX6_setDigits : ByteArray := prog_8_method_18_code
def yX6_setDigits : MethodName := ⟨RX6, "setDigits", "(I)I"⟩
abbrev cX6_setWidth : ByteArray := prog_8_method_19_code
def yX6_setWidth : MethodName := ⟨RX6, "setWidth", "(II)I"⟩
abbrev cX6_setGuard : ByteArray := prog_8_method_20_code
def yX6_setGuard : MethodName := ⟨RX6, "setGuard", "(II)I"⟩
abbrev cX6_setBrightness : ByteArray := prog_8_method_21_code
def yX6_setBrightness : MethodName := ⟨RX6, "setBrightness", "(II)I"⟩
abbrev cX6_setPattern : ByteArray := prog_8_method_22_code
def yX6_setPattern : MethodName := ⟨RX6, "setPattern", "(II)I"⟩
abbrev cX6_setGroup : ByteArray := prog_8_method_23_code
def yX6_setGroup : MethodName := ⟨RX6, "setGroup", "(II)I"⟩
abbrev cX6_digitsIn : ByteArray := prog_8_method_24_code
def yX6_digitsIn : MethodName := ⟨RX6, "digitsIn", "(I)I"⟩
abbrev cX6_setBlink : ByteArray := prog_8_method_25_code
def yX6_setBlink : MethodName := ⟨RX6, "setBlink", "(III)I"⟩
abbrev cX6_set : ByteArray := prog_8_method_26_code
def yX6_set : MethodName := ⟨RX6, "set", "(II)I"⟩
abbrev cX6_brokenOf : ByteArray := prog_8_method_27_code
def yX6_brokenOf : MethodName := ⟨RX6, "brokenOf", "(I)I"⟩
abbrev cX6_replace : ByteArray := prog_8_method_28_code
def yX6_replace : MethodName := ⟨RX6, "replace", "(I)I"⟩
abbrev cX6_test : ByteArray := prog_8_method_29_code
def yX6_test : MethodName := ⟨RX6, "test", "(I)I"⟩
abbrev cX6_isOn : ByteArray := prog_8_method_30_code
def yX6_isOn : MethodName := ⟨RX6, "isOn", "(I)Z"⟩
abbrev cX6_slotNow : ByteArray := prog_8_method_31_code
def yX6_slotNow : MethodName := ⟨RX6, "slotNow", "()I"⟩
abbrev cX6_isDriven : ByteArray := prog_8_method_32_code
def yX6_isDriven : MethodName := ⟨RX6, "isDriven", "(I)Z"⟩
abbrev cX6_litNow : ByteArray := prog_8_method_33_code
def yX6_litNow : MethodName := ⟨RX6, "litNow", "(I)I"⟩
abbrev cX6_brighter : ByteArray := prog_8_method_34_code
def yX6_brighter : MethodName := ⟨RX6, "brighter", "(I)I"⟩
abbrev cX6_darker : ByteArray := prog_8_method_35_code
def yX6_darker : MethodName := ⟨RX6, "darker", "(I)I"⟩
abbrev cX6_light : ByteArray := prog_8_method_36_code
def yX6_light : MethodName := ⟨RX6, "light", "(IIZ)V"⟩
abbrev cX6_tick : ByteArray := prog_8_method_37_code
def yX6_tick : MethodName := ⟨RX6, "tick", "()I"⟩
abbrev cX6_pass : ByteArray := prog_8_method_38_code
def yX6_pass : MethodName := ⟨RX6, "pass", "(I)I"⟩
abbrev cX6_passFrames : ByteArray := prog_8_method_39_code
def yX6_passFrames : MethodName := ⟨RX6, "passFrames", "(I)I"⟩
abbrev cX6_type : ByteArray := prog_8_method_40_code
def yX6_type : MethodName := ⟨RX6, "type", "(C)I"⟩
abbrev cX6_clearText : ByteArray := prog_8_method_41_code
def yX6_clearText : MethodName := ⟨RX6, "clearText", "()I"⟩
abbrev cX6_patternOf : ByteArray := prog_8_method_42_code
def yX6_patternOf : MethodName := ⟨RX6, "patternOf", "(C)I"⟩
abbrev cX6_charOf : ByteArray := prog_8_method_43_code
def yX6_charOf : MethodName := ⟨RX6, "charOf", "(I)I"⟩
abbrev cX6_show : ByteArray := prog_8_method_44_code
def yX6_show : MethodName := ⟨RX6, "show", "()I"⟩
abbrev cX6_seenOf : ByteArray := prog_8_method_45_code
def yX6_seenOf : MethodName := ⟨RX6, "seenOf", "(I)I"⟩
abbrev cX6_glowOf : ByteArray := prog_8_method_46_code
def yX6_glowOf : MethodName := ⟨RX6, "glowOf", "(I)I"⟩
abbrev cX6_digit : ByteArray := prog_8_method_47_code
def yX6_digit : MethodName := ⟨RX6, "digit", "(II)I"⟩
abbrev cX6_segment : ByteArray := prog_8_method_48_code
def yX6_segment : MethodName := ⟨RX6, "segment", "(III)I"⟩
abbrev cX6_litIn : ByteArray := prog_8_method_49_code
def yX6_litIn : MethodName := ⟨RX6, "litIn", "(II)I"⟩
abbrev cX6_steadyGlow : ByteArray := prog_8_method_50_code
def yX6_steadyGlow : MethodName := ⟨RX6, "steadyGlow", "(I)I"⟩
abbrev cX6_current : ByteArray := prog_8_method_51_code
def yX6_current : MethodName := ⟨RX6, "current", "(I)F"⟩
abbrev cX6_thousandths : ByteArray := prog_8_method_52_code
def yX6_thousandths : MethodName := ⟨RX6, "thousandths", "(I)I"⟩
abbrev cX6_duty : ByteArray := prog_8_method_53_code
def yX6_duty : MethodName := ⟨RX6, "duty", "(I)F"⟩
abbrev cX6_broken : ByteArray := prog_8_method_54_code
def yX6_broken : MethodName := ⟨RX6, "broken", "()I"⟩
abbrev cX6_count : ByteArray := prog_8_method_55_code
def yX6_count : MethodName := ⟨RX6, "count", "(I)I"⟩
abbrev cX6_group : ByteArray := prog_8_method_56_code
def yX6_group : MethodName := ⟨RX6, "group", "(II)I"⟩
def RJx8e188 : String := "java/lang/Cloneable"
def TJx8e188 : u_T := fun k => match k with
  | _ => ("", "", "", false)
def tyJx8e188 : Nat → FieldType := fun k => match k with
  | _ => .int
abbrev wsJx8e1880 : List Cond := u_ws RJx8e188 TJx8e188 0
theorem nmJx8e188 : ∀ a, a < 0 → ∀ b, b < 0 → a ≠ b → (TJx8e188 a).2.1 ≠ (TJx8e188 b).2.1 := by decide +kernel
theorem tyJx8e188_ok : ∀ k, k < 0 → parseFieldDescriptor (TJx8e188 k).2.2.1 = some (tyJx8e188 k) := by decide +kernel
def RJ6 : String := "java/lang/Integer"
def TJ6 : u_T := fun k => match k with
  | _ => ("", "", "", false)
def tyJ6 : Nat → FieldType := fun k => match k with
  | _ => .int
abbrev wsJ60 : List Cond := u_ws RJ6 TJ6 0
theorem nmJ6 : ∀ a, a < 0 → ∀ b, b < 0 → a ≠ b → (TJ6 a).2.1 ≠ (TJ6 b).2.1 := by decide +kernel
theorem tyJ6_ok : ∀ k, k < 0 → parseFieldDescriptor (TJ6 k).2.2.1 = some (tyJ6 k) := by decide +kernel
abbrev cJ6_bitCount_0f7a4 : ByteArray := prog_10_method_49_code
def yJ6_bitCount_0f7a4 : MethodName := ⟨RJ6, "bitCount", "(I)I"⟩
def RJ9 : String := "java/lang/Math"
def TJ9 : u_T := fun k => match k with
  | _ => ("", "", "", false)
def tyJ9 : Nat → FieldType := fun k => match k with
  | _ => .int
abbrev wsJ90 : List Cond := u_ws RJ9 TJ9 0
theorem nmJ9 : ∀ a, a < 0 → ∀ b, b < 0 → a ≠ b → (TJ9 a).2.1 ≠ (TJ9 b).2.1 := by decide +kernel
theorem tyJ9_ok : ∀ k, k < 0 → parseFieldDescriptor (TJ9 k).2.2.1 = some (tyJ9 k) := by decide +kernel
abbrev cJ9_max_7cf53 : ByteArray := prog_11_method_65_code
def yJ9_max_7cf53 : MethodName := ⟨RJ9, "max", "(II)I"⟩
abbrev cJ9_min_7cf53 : ByteArray := prog_11_method_69_code
def yJ9_min_7cf53 : MethodName := ⟨RJ9, "min", "(II)I"⟩
def RJ10 : String := "java/lang/System"
def TJ10 : u_T := fun k => match k with
  | _ => ("", "", "", false)
def tyJ10 : Nat → FieldType := fun k => match k with
  | _ => .int
abbrev wsJ100 : List Cond := u_ws RJ10 TJ10 0
theorem nmJ10 : ∀ a, a < 0 → ∀ b, b < 0 → a ≠ b → (TJ10 a).2.1 ≠ (TJ10 b).2.1 := by decide +kernel
theorem tyJ10_ok : ∀ k, k < 0 → parseFieldDescriptor (TJ10 k).2.2.1 = some (tyJ10 k) := by decide +kernel
def RL : String := "ScannedDigitsLaw"
abbrev cL_law : ByteArray := code
def yL_law : MethodName := ⟨RL, "law", "([I)Z"⟩
def wsX0_renewSegments : List Cond := .code yX0_renewSegments cX0_renewSegments 2 none :: ([.fieldLink RX0 43 "ScannedDigits$Digit" "broken" "I", .fieldLink RX0 9 "ScannedDigits$Digit" "glow" "[I", .fieldLink RX0 15 "ScannedDigits$Digit" "use" "[I"] ++ wsX00)
def wsX0_makeNew : List Cond := .code yX0_makeNew cX0_makeNew 1 none :: ([.fieldLink RX0 21 "ScannedDigits$Digit" "width" "I", .fieldLink RX0 25 "ScannedDigits$Digit" "guard" "I", .fieldLink RX0 28 "ScannedDigits$Digit" "brightness" "I", .fieldLink RX0 31 "ScannedDigits$Digit" "pattern" "I", .fieldLink RX0 34 "ScannedDigits$Digit" "group" "I", .fieldLink RX0 37 "ScannedDigits$Digit" "drivenTicks" "I", .methodLink RX0 40 yX0_renewSegments, .instanceMethod yX0_renewSegments, .selects RX0 yX0_renewSegments yX0_renewSegments, .initialized RX0, .code yX0_renewSegments cX0_renewSegments 2 none, .fieldLink RX0 43 "ScannedDigits$Digit" "broken" "I", .fieldLink RX0 9 "ScannedDigits$Digit" "glow" "[I", .fieldLink RX0 15 "ScannedDigits$Digit" "use" "[I"] ++ wsX00)
def wsX0_init : List Cond := .code yX0_init cX0_init 1 none :: ([.methodLink RX0 3 objectInit, .instanceMethod objectInit, .code objectInit ⟨#[0xb1]⟩ 1 none, .arrayClass .int, .fieldLink RX0 9 "ScannedDigits$Digit" "glow" "[I", .fieldLink RX0 15 "ScannedDigits$Digit" "use" "[I", .methodLink RX0 18 yX0_makeNew, .instanceMethod yX0_makeNew, .selects RX0 yX0_makeNew yX0_makeNew, .initialized RX0, .code yX0_makeNew cX0_makeNew 1 none, .fieldLink RX0 21 "ScannedDigits$Digit" "width" "I", .fieldLink RX0 25 "ScannedDigits$Digit" "guard" "I", .fieldLink RX0 28 "ScannedDigits$Digit" "brightness" "I", .fieldLink RX0 31 "ScannedDigits$Digit" "pattern" "I", .fieldLink RX0 34 "ScannedDigits$Digit" "group" "I", .fieldLink RX0 37 "ScannedDigits$Digit" "drivenTicks" "I", .methodLink RX0 40 yX0_renewSegments, .instanceMethod yX0_renewSegments, .selects RX0 yX0_renewSegments yX0_renewSegments, .code yX0_renewSegments cX0_renewSegments 2 none, .fieldLink RX0 43 "ScannedDigits$Digit" "broken" "I"] ++ wsX00)
def wsX0_copyFrom : List Cond := .code yX0_copyFrom cX0_copyFrom 2 none :: ([.fieldLink RX0 21 "ScannedDigits$Digit" "width" "I", .fieldLink RX0 25 "ScannedDigits$Digit" "guard" "I", .fieldLink RX0 28 "ScannedDigits$Digit" "brightness" "I", .fieldLink RX0 31 "ScannedDigits$Digit" "pattern" "I", .fieldLink RX0 34 "ScannedDigits$Digit" "group" "I", .fieldLink RX0 37 "ScannedDigits$Digit" "drivenTicks" "I", .fieldLink RX0 43 "ScannedDigits$Digit" "broken" "I", .fieldLink RX0 9 "ScannedDigits$Digit" "glow" "[I", .methodLink RX0 46 arraycopyName, .native arraycopyName, .static arraycopyName, .initialized "java/lang/System", .fieldLink RX0 15 "ScannedDigits$Digit" "use" "[I"] ++ wsX00)
def wsX0_litPartAt : List Cond := .code yX0_litPartAt cX0_litPartAt 2 (some .int) :: ([.fieldLink RX0 21 "ScannedDigits$Digit" "width" "I", .fieldLink RX0 25 "ScannedDigits$Digit" "guard" "I"] ++ wsX00)
def wsX0_litPart : List Cond := .code yX0_litPart cX0_litPart 1 (some .int) :: ([.fieldLink RX0 28 "ScannedDigits$Digit" "brightness" "I", .methodLink RX0 52 yX0_litPartAt, .instanceMethod yX0_litPartAt, .selects RX0 yX0_litPartAt yX0_litPartAt, .initialized RX0, .code yX0_litPartAt cX0_litPartAt 2 (some .int), .fieldLink RX0 21 "ScannedDigits$Digit" "width" "I", .fieldLink RX0 25 "ScannedDigits$Digit" "guard" "I"] ++ wsX00)
def wsX5_glowUnlit : List Cond := .code yX5_glowUnlit cX5_glowUnlit 3 (some .int) :: ([.methodLink RX5 234 Lib.Math.max.name, .static Lib.Math.max.name, .initialized "java/lang/Math", .code Lib.Math.max.name Lib.Math.max.code 2 (some .int)])
def wsX5_glowLit : List Cond := .code yX5_glowLit cX5_glowLit 2 (some .int) :: ([.methodLink RX5 234 Lib.Math.max.name, .static Lib.Math.max.name, .initialized "java/lang/Math", .code Lib.Math.max.name Lib.Math.max.code 2 (some .int), .methodLink RX5 240 Lib.Math.min.name, .static Lib.Math.min.name, .code Lib.Math.min.name Lib.Math.min.code 2 (some .int)])
def wsX0_runTick : List Cond := .code yX0_runTick cX0_runTick 5 none :: ([.fieldLink RX0 9 "ScannedDigits$Digit" "glow" "[I", .fieldLink RX0 15 "ScannedDigits$Digit" "use" "[I", .fieldLink RX0 43 "ScannedDigits$Digit" "broken" "I", .static yX5_glowUnlit, .initialized RX5, .code yX5_glowUnlit cX5_glowUnlit 3 (some .int), .methodLink RX5 234 Lib.Math.max.name, .static Lib.Math.max.name, .initialized "java/lang/Math", .code Lib.Math.max.name Lib.Math.max.code 2 (some .int), .static yX5_glowLit, .code yX5_glowLit cX5_glowLit 2 (some .int), .methodLink RX5 240 Lib.Math.min.name, .static Lib.Math.min.name, .code Lib.Math.min.name Lib.Math.min.code 2 (some .int)] ++ wsX00)
def wsX0_seen : List Cond := .code yX0_seen cX0_seen 4 (some .int) :: ([.fieldLink RX0 9 "ScannedDigits$Digit" "glow" "[I"] ++ wsX00)
def wsX0_glowSum : List Cond := .code yX0_glowSum cX0_glowSum 3 (some .int) :: ([.fieldLink RX0 9 "ScannedDigits$Digit" "glow" "[I"] ++ wsX00)
def wsX3_init_r1 : List Cond := [Cond.methodLink RX3 3 objectInit, Cond.instanceMethod objectInit, Cond.code objectInit ⟨#[0xb1]⟩ 1 none, Cond.classLink RX3 9 RX0, Cond.fieldLink RX3 11 "ScannedDigits$State" "digits" "[LScannedDigits$Digit;", Cond.fieldLink RX3 17 "ScannedDigits$State" "digitCount" "I", Cond.arrayClass .int, Cond.fieldLink RX3 21 "ScannedDigits$State" "on" "[I", Cond.fieldLink RX3 25 "ScannedDigits$State" "off" "[I", Cond.methodLink RX3 31 ⟨"[I", "clone", "()Ljava/lang/Object;"⟩, Cond.sameMethod "[I" "java/lang/Object" "clone" "()Ljava/lang/Object;", Cond.native ⟨"java/lang/Object", "clone", "()Ljava/lang/Object;"⟩, Cond.instanceMethod ⟨"java/lang/Object", "clone", "()Ljava/lang/Object;"⟩, Cond.selects "[I" ⟨"[I", "clone", "()Ljava/lang/Object;"⟩ ⟨"java/lang/Object", "clone", "()Ljava/lang/Object;"⟩, Cond.classLink RX3 32 "[I", Cond.fieldLink RX3 36 "ScannedDigits$State" "settings" "[I", Cond.instantiable RX0 9, Cond.initialized RX0, Cond.methodLink RX3 39 yX0_init, Cond.instanceMethod yX0_init, Cond.code yX0_init cX0_init 1 none, Cond.methodLink RX0 3 objectInit, Cond.fieldLink RX0 9 "ScannedDigits$Digit" "glow" "[I", Cond.fieldLink RX0 15 "ScannedDigits$Digit" "use" "[I"]
def wsX3_init_r2 : List Cond := [Cond.methodLink RX0 18 yX0_makeNew, Cond.instanceMethod yX0_makeNew, Cond.selects RX0 yX0_makeNew yX0_makeNew, Cond.code yX0_makeNew cX0_makeNew 1 none, Cond.fieldLink RX0 21 "ScannedDigits$Digit" "width" "I", Cond.fieldLink RX0 25 "ScannedDigits$Digit" "guard" "I", Cond.fieldLink RX0 28 "ScannedDigits$Digit" "brightness" "I", Cond.fieldLink RX0 31 "ScannedDigits$Digit" "pattern" "I", Cond.fieldLink RX0 34 "ScannedDigits$Digit" "group" "I", Cond.fieldLink RX0 37 "ScannedDigits$Digit" "drivenTicks" "I", Cond.methodLink RX0 40 yX0_renewSegments, Cond.instanceMethod yX0_renewSegments, Cond.selects RX0 yX0_renewSegments yX0_renewSegments, Cond.code yX0_renewSegments cX0_renewSegments 2 none, Cond.fieldLink RX0 43 "ScannedDigits$Digit" "broken" "I"]
def wsX3_init : List Cond := .code yX3_init cX3_init 2 none :: ((wsX3_init_r1 ++ wsX3_init_r2) ++ wsX30 ++ wsX00)
def wsX1_init_r1 : List Cond := [Cond.methodLink RX1 3 objectInit, Cond.instanceMethod objectInit, Cond.code objectInit ⟨#[0xb1]⟩ 1 none, Cond.classLink RX1 9 RX3, Cond.fieldLink RX1 11 "ScannedDigits$History" "rows" "[LScannedDigits$State;", Cond.instantiable RX3 13, Cond.initialized RX3, Cond.methodLink RX1 17 yX3_init, Cond.instanceMethod yX3_init, Cond.code yX3_init cX3_init 2 none, Cond.methodLink RX3 3 objectInit, Cond.classLink RX3 9 RX0, Cond.fieldLink RX3 11 "ScannedDigits$State" "digits" "[LScannedDigits$Digit;", Cond.fieldLink RX3 17 "ScannedDigits$State" "digitCount" "I", Cond.arrayClass .int, Cond.fieldLink RX3 21 "ScannedDigits$State" "on" "[I", Cond.fieldLink RX3 25 "ScannedDigits$State" "off" "[I", Cond.methodLink RX3 31 ⟨"[I", "clone", "()Ljava/lang/Object;"⟩, Cond.sameMethod "[I" "java/lang/Object" "clone" "()Ljava/lang/Object;", Cond.native ⟨"java/lang/Object", "clone", "()Ljava/lang/Object;"⟩, Cond.instanceMethod ⟨"java/lang/Object", "clone", "()Ljava/lang/Object;"⟩, Cond.selects "[I" ⟨"[I", "clone", "()Ljava/lang/Object;"⟩ ⟨"java/lang/Object", "clone", "()Ljava/lang/Object;"⟩, Cond.classLink RX3 32 "[I", Cond.fieldLink RX3 36 "ScannedDigits$State" "settings" "[I"]
def wsX1_init_r2 : List Cond := [Cond.instantiable RX0 9, Cond.initialized RX0, Cond.methodLink RX3 39 yX0_init, Cond.instanceMethod yX0_init, Cond.code yX0_init cX0_init 1 none, Cond.methodLink RX0 3 objectInit, Cond.fieldLink RX0 9 "ScannedDigits$Digit" "glow" "[I", Cond.fieldLink RX0 15 "ScannedDigits$Digit" "use" "[I", Cond.methodLink RX0 18 yX0_makeNew, Cond.instanceMethod yX0_makeNew, Cond.selects RX0 yX0_makeNew yX0_makeNew, Cond.code yX0_makeNew cX0_makeNew 1 none, Cond.fieldLink RX0 21 "ScannedDigits$Digit" "width" "I", Cond.fieldLink RX0 25 "ScannedDigits$Digit" "guard" "I", Cond.fieldLink RX0 28 "ScannedDigits$Digit" "brightness" "I", Cond.fieldLink RX0 31 "ScannedDigits$Digit" "pattern" "I", Cond.fieldLink RX0 34 "ScannedDigits$Digit" "group" "I", Cond.fieldLink RX0 37 "ScannedDigits$Digit" "drivenTicks" "I", Cond.methodLink RX0 40 yX0_renewSegments, Cond.instanceMethod yX0_renewSegments, Cond.selects RX0 yX0_renewSegments yX0_renewSegments, Cond.code yX0_renewSegments cX0_renewSegments 2 none, Cond.fieldLink RX0 43 "ScannedDigits$Digit" "broken" "I"]
def wsX1_init : List Cond := .code yX1_init cX1_init 2 none :: ((wsX1_init_r1 ++ wsX1_init_r2) ++ wsX10 ++ wsX30 ++ wsX00)
def wsX3_copyFrom_r1 : List Cond := [Cond.fieldLink RX3 11 "ScannedDigits$State" "digits" "[LScannedDigits$Digit;", Cond.fieldLink RX3 17 "ScannedDigits$State" "digitCount" "I", Cond.fieldLink RX3 21 "ScannedDigits$State" "on" "[I", Cond.methodLink RX3 44 arraycopyName, Cond.native arraycopyName, Cond.static arraycopyName, Cond.initialized "java/lang/System", Cond.fieldLink RX3 25 "ScannedDigits$State" "off" "[I", Cond.fieldLink RX3 36 "ScannedDigits$State" "settings" "[I", Cond.fieldLink RX3 50 "ScannedDigits$State" "time" "I", Cond.fieldLink RX3 53 "ScannedDigits$State" "frame" "I", Cond.fieldLink RX3 56 "ScannedDigits$State" "frameTicks" "I", Cond.fieldLink RX3 59 "ScannedDigits$State" "testFrames" "I", Cond.fieldLink RX3 62 "ScannedDigits$State" "drivenTicks" "I", Cond.fieldLink RX3 65 "ScannedDigits$State" "current" "F", Cond.fieldLink RX3 69 "ScannedDigits$State" "peak" "F", Cond.fieldLink RX3 72 "ScannedDigits$State" "charge" "F", Cond.methodLink RX3 40 yX0_copyFrom, Cond.instanceMethod yX0_copyFrom, Cond.selects RX0 yX0_copyFrom yX0_copyFrom, Cond.initialized RX0, Cond.code yX0_copyFrom cX0_copyFrom 2 none, Cond.fieldLink RX0 21 "ScannedDigits$Digit" "width" "I", Cond.fieldLink RX0 25 "ScannedDigits$Digit" "guard" "I"]
def wsX3_copyFrom_r2 : List Cond := [Cond.fieldLink RX0 28 "ScannedDigits$Digit" "brightness" "I", Cond.fieldLink RX0 31 "ScannedDigits$Digit" "pattern" "I", Cond.fieldLink RX0 34 "ScannedDigits$Digit" "group" "I", Cond.fieldLink RX0 37 "ScannedDigits$Digit" "drivenTicks" "I", Cond.fieldLink RX0 43 "ScannedDigits$Digit" "broken" "I", Cond.fieldLink RX0 9 "ScannedDigits$Digit" "glow" "[I", Cond.methodLink RX0 46 arraycopyName, Cond.fieldLink RX0 15 "ScannedDigits$Digit" "use" "[I"]
def wsX3_copyFrom : List Cond := .code yX3_copyFrom cX3_copyFrom 3 none :: ((wsX3_copyFrom_r1 ++ wsX3_copyFrom_r2) ++ wsX30 ++ wsX00)
def wsX1_record_r1 : List Cond := [Cond.fieldLink RX1 11 "ScannedDigits$History" "rows" "[LScannedDigits$State;", Cond.fieldLink RX1 18 "ScannedDigits$History" "next" "I", Cond.fieldLink RX1 26 "ScannedDigits$History" "size" "I", Cond.methodLink RX1 29 Lib.Math.min.name, Cond.static Lib.Math.min.name, Cond.initialized "java/lang/Math", Cond.code Lib.Math.min.name Lib.Math.min.code 2 (some .int), Cond.methodLink RX1 22 yX3_copyFrom, Cond.instanceMethod yX3_copyFrom, Cond.selects RX3 yX3_copyFrom yX3_copyFrom, Cond.initialized RX3, Cond.code yX3_copyFrom cX3_copyFrom 3 none, Cond.fieldLink RX3 11 "ScannedDigits$State" "digits" "[LScannedDigits$Digit;", Cond.fieldLink RX3 17 "ScannedDigits$State" "digitCount" "I", Cond.fieldLink RX3 21 "ScannedDigits$State" "on" "[I", Cond.methodLink RX3 44 arraycopyName, Cond.native arraycopyName, Cond.static arraycopyName, Cond.initialized "java/lang/System", Cond.fieldLink RX3 25 "ScannedDigits$State" "off" "[I", Cond.fieldLink RX3 36 "ScannedDigits$State" "settings" "[I", Cond.fieldLink RX3 50 "ScannedDigits$State" "time" "I", Cond.fieldLink RX3 53 "ScannedDigits$State" "frame" "I", Cond.fieldLink RX3 56 "ScannedDigits$State" "frameTicks" "I"]
def wsX1_record_r2 : List Cond := [Cond.fieldLink RX3 59 "ScannedDigits$State" "testFrames" "I", Cond.fieldLink RX3 62 "ScannedDigits$State" "drivenTicks" "I", Cond.fieldLink RX3 65 "ScannedDigits$State" "current" "F", Cond.fieldLink RX3 69 "ScannedDigits$State" "peak" "F", Cond.fieldLink RX3 72 "ScannedDigits$State" "charge" "F", Cond.methodLink RX3 40 yX0_copyFrom, Cond.instanceMethod yX0_copyFrom, Cond.selects RX0 yX0_copyFrom yX0_copyFrom, Cond.initialized RX0, Cond.code yX0_copyFrom cX0_copyFrom 2 none, Cond.fieldLink RX0 21 "ScannedDigits$Digit" "width" "I", Cond.fieldLink RX0 25 "ScannedDigits$Digit" "guard" "I", Cond.fieldLink RX0 28 "ScannedDigits$Digit" "brightness" "I", Cond.fieldLink RX0 31 "ScannedDigits$Digit" "pattern" "I", Cond.fieldLink RX0 34 "ScannedDigits$Digit" "group" "I", Cond.fieldLink RX0 37 "ScannedDigits$Digit" "drivenTicks" "I", Cond.fieldLink RX0 43 "ScannedDigits$Digit" "broken" "I", Cond.fieldLink RX0 9 "ScannedDigits$Digit" "glow" "[I", Cond.methodLink RX0 46 arraycopyName, Cond.fieldLink RX0 15 "ScannedDigits$Digit" "use" "[I"]
def wsX1_record : List Cond := .code yX1_record cX1_record 2 none :: ((wsX1_record_r1 ++ wsX1_record_r2) ++ wsX10 ++ wsX30 ++ wsX00)
def wsX1_takeBack_r1 : List Cond := [Cond.fieldLink RX1 18 "ScannedDigits$History" "next" "I", Cond.fieldLink RX1 11 "ScannedDigits$History" "rows" "[LScannedDigits$State;", Cond.fieldLink RX1 26 "ScannedDigits$History" "size" "I", Cond.methodLink RX1 22 yX3_copyFrom, Cond.instanceMethod yX3_copyFrom, Cond.selects RX3 yX3_copyFrom yX3_copyFrom, Cond.initialized RX3, Cond.code yX3_copyFrom cX3_copyFrom 3 none, Cond.fieldLink RX3 11 "ScannedDigits$State" "digits" "[LScannedDigits$Digit;", Cond.fieldLink RX3 17 "ScannedDigits$State" "digitCount" "I", Cond.fieldLink RX3 21 "ScannedDigits$State" "on" "[I", Cond.methodLink RX3 44 arraycopyName, Cond.native arraycopyName, Cond.static arraycopyName, Cond.initialized "java/lang/System", Cond.fieldLink RX3 25 "ScannedDigits$State" "off" "[I", Cond.fieldLink RX3 36 "ScannedDigits$State" "settings" "[I", Cond.fieldLink RX3 50 "ScannedDigits$State" "time" "I", Cond.fieldLink RX3 53 "ScannedDigits$State" "frame" "I", Cond.fieldLink RX3 56 "ScannedDigits$State" "frameTicks" "I", Cond.fieldLink RX3 59 "ScannedDigits$State" "testFrames" "I", Cond.fieldLink RX3 62 "ScannedDigits$State" "drivenTicks" "I", Cond.fieldLink RX3 65 "ScannedDigits$State" "current" "F", Cond.fieldLink RX3 69 "ScannedDigits$State" "peak" "F"]
def wsX1_takeBack_r2 : List Cond := [Cond.fieldLink RX3 72 "ScannedDigits$State" "charge" "F", Cond.methodLink RX3 40 yX0_copyFrom, Cond.instanceMethod yX0_copyFrom, Cond.selects RX0 yX0_copyFrom yX0_copyFrom, Cond.initialized RX0, Cond.code yX0_copyFrom cX0_copyFrom 2 none, Cond.fieldLink RX0 21 "ScannedDigits$Digit" "width" "I", Cond.fieldLink RX0 25 "ScannedDigits$Digit" "guard" "I", Cond.fieldLink RX0 28 "ScannedDigits$Digit" "brightness" "I", Cond.fieldLink RX0 31 "ScannedDigits$Digit" "pattern" "I", Cond.fieldLink RX0 34 "ScannedDigits$Digit" "group" "I", Cond.fieldLink RX0 37 "ScannedDigits$Digit" "drivenTicks" "I", Cond.fieldLink RX0 43 "ScannedDigits$Digit" "broken" "I", Cond.fieldLink RX0 9 "ScannedDigits$Digit" "glow" "[I", Cond.methodLink RX0 46 arraycopyName, Cond.fieldLink RX0 15 "ScannedDigits$Digit" "use" "[I"]
def wsX1_takeBack : List Cond := .code yX1_takeBack cX1_takeBack 2 none :: ((wsX1_takeBack_r1 ++ wsX1_takeBack_r2) ++ wsX10 ++ wsX30 ++ wsX00)
def wsX2_init_r1 : List Cond := [Cond.methodLink RX2 1 objectInit, Cond.instanceMethod objectInit, Cond.code objectInit ⟨#[0xb1]⟩ 1 none, Cond.classLink RX2 7 RX3, Cond.instantiable RX3 13, Cond.initialized RX3, Cond.fieldLink RX2 10 "ScannedDigits$Snapshot" "state" "LScannedDigits$State;", Cond.methodLink RX2 9 yX3_init, Cond.instanceMethod yX3_init, Cond.code yX3_init cX3_init 2 none, Cond.methodLink RX3 3 objectInit, Cond.classLink RX3 9 RX0, Cond.fieldLink RX3 11 "ScannedDigits$State" "digits" "[LScannedDigits$Digit;", Cond.fieldLink RX3 17 "ScannedDigits$State" "digitCount" "I", Cond.arrayClass .int, Cond.fieldLink RX3 21 "ScannedDigits$State" "on" "[I", Cond.fieldLink RX3 25 "ScannedDigits$State" "off" "[I", Cond.methodLink RX3 31 ⟨"[I", "clone", "()Ljava/lang/Object;"⟩, Cond.sameMethod "[I" "java/lang/Object" "clone" "()Ljava/lang/Object;", Cond.native ⟨"java/lang/Object", "clone", "()Ljava/lang/Object;"⟩, Cond.instanceMethod ⟨"java/lang/Object", "clone", "()Ljava/lang/Object;"⟩, Cond.selects "[I" ⟨"[I", "clone", "()Ljava/lang/Object;"⟩ ⟨"java/lang/Object", "clone", "()Ljava/lang/Object;"⟩, Cond.classLink RX3 32 "[I", Cond.fieldLink RX3 36 "ScannedDigits$State" "settings" "[I"]
def wsX2_init_r2 : List Cond := [Cond.instantiable RX0 9, Cond.initialized RX0, Cond.methodLink RX3 39 yX0_init, Cond.instanceMethod yX0_init, Cond.code yX0_init cX0_init 1 none, Cond.methodLink RX0 3 objectInit, Cond.fieldLink RX0 9 "ScannedDigits$Digit" "glow" "[I", Cond.fieldLink RX0 15 "ScannedDigits$Digit" "use" "[I", Cond.methodLink RX0 18 yX0_makeNew, Cond.instanceMethod yX0_makeNew, Cond.selects RX0 yX0_makeNew yX0_makeNew, Cond.code yX0_makeNew cX0_makeNew 1 none, Cond.fieldLink RX0 21 "ScannedDigits$Digit" "width" "I", Cond.fieldLink RX0 25 "ScannedDigits$Digit" "guard" "I", Cond.fieldLink RX0 28 "ScannedDigits$Digit" "brightness" "I", Cond.fieldLink RX0 31 "ScannedDigits$Digit" "pattern" "I", Cond.fieldLink RX0 34 "ScannedDigits$Digit" "group" "I", Cond.fieldLink RX0 37 "ScannedDigits$Digit" "drivenTicks" "I", Cond.methodLink RX0 40 yX0_renewSegments, Cond.instanceMethod yX0_renewSegments, Cond.selects RX0 yX0_renewSegments yX0_renewSegments, Cond.code yX0_renewSegments cX0_renewSegments 2 none, Cond.fieldLink RX0 43 "ScannedDigits$Digit" "broken" "I"]
def wsX2_init : List Cond := .code yX2_init cX2_init 1 none :: ((wsX2_init_r1 ++ wsX2_init_r2) ++ wsX30 ++ wsX20 ++ wsX00)
def wsX5_isWithin : List Cond := .code yX5_isWithin cX5_isWithin 3 (some .boolean) :: ([])
def wsX3_find : List Cond := .code yX3_find cX3_find 2 (some (.object "ScannedDigits$Digit")) :: ([.fieldLink RX3 17 "ScannedDigits$State" "digitCount" "I", .fieldLink RX3 11 "ScannedDigits$State" "digits" "[LScannedDigits$Digit;", .static yX5_isWithin, .initialized RX5, .code yX5_isWithin cX5_isWithin 3 (some .boolean)] ++ wsX30)
def wsX3_beginFrame : List Cond := .code yX3_beginFrame cX3_beginFrame 1 none :: ([.fieldLink RX3 53 "ScannedDigits$State" "frame" "I", .fieldLink RX3 56 "ScannedDigits$State" "frameTicks" "I", .fieldLink RX3 59 "ScannedDigits$State" "testFrames" "I"] ++ wsX30)
def wsX3_changeDigitCount_r1 : List Cond := [Cond.fieldLink RX3 17 "ScannedDigits$State" "digitCount" "I", Cond.fieldLink RX3 11 "ScannedDigits$State" "digits" "[LScannedDigits$Digit;", Cond.methodLink RX3 79 yX0_makeNew, Cond.instanceMethod yX0_makeNew, Cond.selects RX0 yX0_makeNew yX0_makeNew, Cond.initialized RX0, Cond.code yX0_makeNew cX0_makeNew 1 none, Cond.fieldLink RX0 21 "ScannedDigits$Digit" "width" "I", Cond.fieldLink RX0 25 "ScannedDigits$Digit" "guard" "I", Cond.fieldLink RX0 28 "ScannedDigits$Digit" "brightness" "I", Cond.fieldLink RX0 31 "ScannedDigits$Digit" "pattern" "I", Cond.fieldLink RX0 34 "ScannedDigits$Digit" "group" "I", Cond.fieldLink RX0 37 "ScannedDigits$Digit" "drivenTicks" "I", Cond.methodLink RX0 40 yX0_renewSegments, Cond.instanceMethod yX0_renewSegments, Cond.selects RX0 yX0_renewSegments yX0_renewSegments, Cond.code yX0_renewSegments cX0_renewSegments 2 none, Cond.fieldLink RX0 43 "ScannedDigits$Digit" "broken" "I", Cond.fieldLink RX0 9 "ScannedDigits$Digit" "glow" "[I", Cond.fieldLink RX0 15 "ScannedDigits$Digit" "use" "[I", Cond.methodLink RX3 82 yX3_beginFrame, Cond.instanceMethod yX3_beginFrame, Cond.selects RX3 yX3_beginFrame yX3_beginFrame, Cond.initialized RX3]
def wsX3_changeDigitCount_r2 : List Cond := [Cond.code yX3_beginFrame cX3_beginFrame 1 none, Cond.fieldLink RX3 53 "ScannedDigits$State" "frame" "I", Cond.fieldLink RX3 56 "ScannedDigits$State" "frameTicks" "I", Cond.fieldLink RX3 59 "ScannedDigits$State" "testFrames" "I"]
def wsX3_changeDigitCount : List Cond := .code yX3_changeDigitCount cX3_changeDigitCount 3 none :: ((wsX3_changeDigitCount_r1 ++ wsX3_changeDigitCount_r2) ++ wsX30 ++ wsX00)
def wsX3_changeWidth : List Cond := .code yX3_changeWidth cX3_changeWidth 3 none :: ([.fieldLink RX3 85 "ScannedDigits$Digit" "width" "I", .methodLink RX3 82 yX3_beginFrame, .instanceMethod yX3_beginFrame, .selects RX3 yX3_beginFrame yX3_beginFrame, .initialized RX3, .code yX3_beginFrame cX3_beginFrame 1 none, .fieldLink RX3 53 "ScannedDigits$State" "frame" "I", .fieldLink RX3 56 "ScannedDigits$State" "frameTicks" "I", .fieldLink RX3 59 "ScannedDigits$State" "testFrames" "I"] ++ wsX00 ++ wsX30)
def wsX3_takePatterns : List Cond := .code yX3_takePatterns cX3_takePatterns 3 none :: ([.fieldLink RX3 17 "ScannedDigits$State" "digitCount" "I", .fieldLink RX3 11 "ScannedDigits$State" "digits" "[LScannedDigits$Digit;", .fieldLink RX3 88 "ScannedDigits$Digit" "pattern" "I"] ++ wsX30 ++ wsX00)
def wsX3_slotStart : List Cond := .code yX3_slotStart cX3_slotStart 4 (some .int) :: ([.fieldLink RX3 11 "ScannedDigits$State" "digits" "[LScannedDigits$Digit;", .fieldLink RX3 85 "ScannedDigits$Digit" "width" "I"] ++ wsX30 ++ wsX00)
def wsX3_frameLength : List Cond := .code yX3_frameLength cX3_frameLength 1 (some .int) :: ([.fieldLink RX3 17 "ScannedDigits$State" "digitCount" "I", .methodLink RX3 91 yX3_slotStart, .instanceMethod yX3_slotStart, .selects RX3 yX3_slotStart yX3_slotStart, .initialized RX3, .code yX3_slotStart cX3_slotStart 4 (some .int), .fieldLink RX3 11 "ScannedDigits$State" "digits" "[LScannedDigits$Digit;", .fieldLink RX3 85 "ScannedDigits$Digit" "width" "I"] ++ wsX30 ++ wsX00)
def wsX3_slotNow : List Cond := .code yX3_slotNow cX3_slotNow 3 (some .int) :: ([.fieldLink RX3 11 "ScannedDigits$State" "digits" "[LScannedDigits$Digit;", .fieldLink RX3 85 "ScannedDigits$Digit" "width" "I", .fieldLink RX3 17 "ScannedDigits$State" "digitCount" "I", .fieldLink RX3 56 "ScannedDigits$State" "frameTicks" "I"] ++ wsX30 ++ wsX00)
def wsX3_isGroupOn : List Cond := .code yX3_isGroupOn cX3_isGroupOn 3 (some .boolean) :: ([.fieldLink RX3 21 "ScannedDigits$State" "on" "[I", .fieldLink RX3 25 "ScannedDigits$State" "off" "[I", .fieldLink RX3 53 "ScannedDigits$State" "frame" "I"] ++ wsX30)
def wsX3_digitsInGroup : List Cond := .code yX3_digitsInGroup cX3_digitsInGroup 4 (some .int) :: ([.fieldLink RX3 17 "ScannedDigits$State" "digitCount" "I", .fieldLink RX3 11 "ScannedDigits$State" "digits" "[LScannedDigits$Digit;", .fieldLink RX3 95 "ScannedDigits$Digit" "group" "I"] ++ wsX30 ++ wsX00)
def wsJ6_bitCount_0f7a4 : List Cond := .code yJ6_bitCount_0f7a4 cJ6_bitCount_0f7a4 1 (some .int) :: ([.constant RJ6 265 (1431655765), .constant RJ6 266 (858993459), .constant RJ6 267 (252645135)])
def wsX3_brokenSegments : List Cond := .code yX3_brokenSegments cX3_brokenSegments 3 (some .int) :: ([.fieldLink RX3 17 "ScannedDigits$State" "digitCount" "I", .fieldLink RX3 11 "ScannedDigits$State" "digits" "[LScannedDigits$Digit;", .fieldLink RX3 98 "ScannedDigits$Digit" "broken" "I", .methodLink RX3 101 yJ6_bitCount_0f7a4, .static yJ6_bitCount_0f7a4, .initialized RJ6, .code yJ6_bitCount_0f7a4 cJ6_bitCount_0f7a4 1 (some .int), .constant RJ6 265 (1431655765), .constant RJ6 266 (858993459), .constant RJ6 267 (252645135)] ++ wsX30 ++ wsX00)
def wsX3_isDriven_r1 : List Cond := [Cond.fieldLink RX3 11 "ScannedDigits$State" "digits" "[LScannedDigits$Digit;", Cond.fieldLink RX3 59 "ScannedDigits$State" "testFrames" "I", Cond.fieldLink RX3 106 "ScannedDigits$Digit" "brightness" "I", Cond.fieldLink RX3 56 "ScannedDigits$State" "frameTicks" "I", Cond.fieldLink RX3 95 "ScannedDigits$Digit" "group" "I", Cond.methodLink RX3 109 yX0_litPartAt, Cond.instanceMethod yX0_litPartAt, Cond.selects RX0 yX0_litPartAt yX0_litPartAt, Cond.initialized RX0, Cond.code yX0_litPartAt cX0_litPartAt 2 (some .int), Cond.fieldLink RX0 21 "ScannedDigits$Digit" "width" "I", Cond.fieldLink RX0 25 "ScannedDigits$Digit" "guard" "I", Cond.methodLink RX3 91 yX3_slotStart, Cond.instanceMethod yX3_slotStart, Cond.selects RX3 yX3_slotStart yX3_slotStart, Cond.initialized RX3, Cond.code yX3_slotStart cX3_slotStart 4 (some .int), Cond.fieldLink RX3 85 "ScannedDigits$Digit" "width" "I", Cond.methodLink RX3 112 yX3_isGroupOn, Cond.instanceMethod yX3_isGroupOn, Cond.selects RX3 yX3_isGroupOn yX3_isGroupOn, Cond.code yX3_isGroupOn cX3_isGroupOn 3 (some .boolean), Cond.fieldLink RX3 21 "ScannedDigits$State" "on" "[I", Cond.fieldLink RX3 25 "ScannedDigits$State" "off" "[I"]
def wsX3_isDriven_r2 : List Cond := [Cond.fieldLink RX3 53 "ScannedDigits$State" "frame" "I"]
def wsX3_isDriven : List Cond := .code yX3_isDriven cX3_isDriven 5 (some .boolean) :: ((wsX3_isDriven_r1 ++ wsX3_isDriven_r2) ++ wsX30 ++ wsX00)
def wsX3_litNext_r1 : List Cond := [Cond.fieldLink RX3 59 "ScannedDigits$State" "testFrames" "I", Cond.fieldLink RX3 11 "ScannedDigits$State" "digits" "[LScannedDigits$Digit;", Cond.fieldLink RX3 88 "ScannedDigits$Digit" "pattern" "I", Cond.fieldLink RX3 98 "ScannedDigits$Digit" "broken" "I", Cond.methodLink RX3 116 yX3_slotNow, Cond.instanceMethod yX3_slotNow, Cond.selects RX3 yX3_slotNow yX3_slotNow, Cond.initialized RX3, Cond.code yX3_slotNow cX3_slotNow 3 (some .int), Cond.fieldLink RX3 85 "ScannedDigits$Digit" "width" "I", Cond.fieldLink RX3 17 "ScannedDigits$State" "digitCount" "I", Cond.fieldLink RX3 56 "ScannedDigits$State" "frameTicks" "I", Cond.methodLink RX3 120 yX3_isDriven, Cond.instanceMethod yX3_isDriven, Cond.selects RX3 yX3_isDriven yX3_isDriven, Cond.code yX3_isDriven cX3_isDriven 5 (some .boolean), Cond.fieldLink RX3 106 "ScannedDigits$Digit" "brightness" "I", Cond.fieldLink RX3 95 "ScannedDigits$Digit" "group" "I", Cond.methodLink RX3 109 yX0_litPartAt, Cond.instanceMethod yX0_litPartAt, Cond.selects RX0 yX0_litPartAt yX0_litPartAt, Cond.initialized RX0, Cond.code yX0_litPartAt cX0_litPartAt 2 (some .int), Cond.fieldLink RX0 21 "ScannedDigits$Digit" "width" "I"]
def wsX3_litNext_r2 : List Cond := [Cond.fieldLink RX0 25 "ScannedDigits$Digit" "guard" "I", Cond.methodLink RX3 91 yX3_slotStart, Cond.instanceMethod yX3_slotStart, Cond.selects RX3 yX3_slotStart yX3_slotStart, Cond.code yX3_slotStart cX3_slotStart 4 (some .int), Cond.methodLink RX3 112 yX3_isGroupOn, Cond.instanceMethod yX3_isGroupOn, Cond.selects RX3 yX3_isGroupOn yX3_isGroupOn, Cond.code yX3_isGroupOn cX3_isGroupOn 3 (some .boolean), Cond.fieldLink RX3 21 "ScannedDigits$State" "on" "[I", Cond.fieldLink RX3 25 "ScannedDigits$State" "off" "[I", Cond.fieldLink RX3 53 "ScannedDigits$State" "frame" "I"]
def wsX3_litNext : List Cond := .code yX3_litNext cX3_litNext 3 (some .int) :: ((wsX3_litNext_r1 ++ wsX3_litNext_r2) ++ wsX30 ++ wsX00)
def wsX3_runCurrent : List Cond := .code yX3_runCurrent cX3_runCurrent 2 none :: ([.fieldLink RX3 65 "ScannedDigits$State" "current" "F", .constantFloat RX3 140 (1075838976), .constantFloat RX3 141 (1040187392), .fieldLink RX3 69 "ScannedDigits$State" "peak" "F", .fieldLink RX3 72 "ScannedDigits$State" "charge" "F", .constantFloat RX3 142 (981668463)] ++ wsX30)
def wsX3_runTick_r1 : List Cond := [Cond.fieldLink RX3 11 "ScannedDigits$State" "digits" "[LScannedDigits$Digit;", Cond.fieldLink RX3 129 "ScannedDigits$Digit" "drivenTicks" "I", Cond.fieldLink RX3 62 "ScannedDigits$State" "drivenTicks" "I", Cond.fieldLink RX3 17 "ScannedDigits$State" "digitCount" "I", Cond.fieldLink RX3 36 "ScannedDigits$State" "settings" "[I", Cond.fieldLink RX3 50 "ScannedDigits$State" "time" "I", Cond.fieldLink RX3 56 "ScannedDigits$State" "frameTicks" "I", Cond.methodLink RX3 116 yX3_slotNow, Cond.instanceMethod yX3_slotNow, Cond.selects RX3 yX3_slotNow yX3_slotNow, Cond.initialized RX3, Cond.code yX3_slotNow cX3_slotNow 3 (some .int), Cond.fieldLink RX3 85 "ScannedDigits$Digit" "width" "I", Cond.methodLink RX3 126 yX3_litNext, Cond.instanceMethod yX3_litNext, Cond.selects RX3 yX3_litNext yX3_litNext, Cond.code yX3_litNext cX3_litNext 3 (some .int), Cond.fieldLink RX3 59 "ScannedDigits$State" "testFrames" "I", Cond.fieldLink RX3 88 "ScannedDigits$Digit" "pattern" "I", Cond.fieldLink RX3 98 "ScannedDigits$Digit" "broken" "I", Cond.methodLink RX3 120 yX3_isDriven, Cond.instanceMethod yX3_isDriven, Cond.selects RX3 yX3_isDriven yX3_isDriven, Cond.code yX3_isDriven cX3_isDriven 5 (some .boolean)]
def wsX3_runTick_r2 : List Cond := [Cond.fieldLink RX3 106 "ScannedDigits$Digit" "brightness" "I", Cond.fieldLink RX3 95 "ScannedDigits$Digit" "group" "I", Cond.methodLink RX3 109 yX0_litPartAt, Cond.instanceMethod yX0_litPartAt, Cond.selects RX0 yX0_litPartAt yX0_litPartAt, Cond.initialized RX0, Cond.code yX0_litPartAt cX0_litPartAt 2 (some .int), Cond.fieldLink RX0 21 "ScannedDigits$Digit" "width" "I", Cond.fieldLink RX0 25 "ScannedDigits$Digit" "guard" "I", Cond.methodLink RX3 91 yX3_slotStart, Cond.instanceMethod yX3_slotStart, Cond.selects RX3 yX3_slotStart yX3_slotStart, Cond.code yX3_slotStart cX3_slotStart 4 (some .int), Cond.methodLink RX3 112 yX3_isGroupOn, Cond.instanceMethod yX3_isGroupOn, Cond.selects RX3 yX3_isGroupOn yX3_isGroupOn, Cond.code yX3_isGroupOn cX3_isGroupOn 3 (some .boolean), Cond.fieldLink RX3 21 "ScannedDigits$State" "on" "[I", Cond.fieldLink RX3 25 "ScannedDigits$State" "off" "[I", Cond.fieldLink RX3 53 "ScannedDigits$State" "frame" "I", Cond.methodLink RX3 130 yX0_runTick, Cond.instanceMethod yX0_runTick, Cond.selects RX0 yX0_runTick yX0_runTick, Cond.code yX0_runTick cX0_runTick 5 none]
def wsX3_runTick_r3 : List Cond := [Cond.fieldLink RX0 9 "ScannedDigits$Digit" "glow" "[I", Cond.fieldLink RX0 15 "ScannedDigits$Digit" "use" "[I", Cond.fieldLink RX0 43 "ScannedDigits$Digit" "broken" "I", Cond.static yX5_glowUnlit, Cond.initialized RX5, Cond.code yX5_glowUnlit cX5_glowUnlit 3 (some .int), Cond.methodLink RX5 234 Lib.Math.max.name, Cond.static Lib.Math.max.name, Cond.initialized "java/lang/Math", Cond.code Lib.Math.max.name Lib.Math.max.code 2 (some .int), Cond.static yX5_glowLit, Cond.code yX5_glowLit cX5_glowLit 2 (some .int), Cond.methodLink RX5 240 Lib.Math.min.name, Cond.static Lib.Math.min.name, Cond.code Lib.Math.min.name Lib.Math.min.code 2 (some .int), Cond.methodLink RX3 101 yJ6_bitCount_0f7a4, Cond.static yJ6_bitCount_0f7a4, Cond.initialized RJ6, Cond.code yJ6_bitCount_0f7a4 cJ6_bitCount_0f7a4 1 (some .int), Cond.constant RJ6 265 (1431655765), Cond.constant RJ6 266 (858993459), Cond.constant RJ6 267 (252645135), Cond.methodLink RX3 133 yX3_runCurrent, Cond.instanceMethod yX3_runCurrent]
def wsX3_runTick_r4 : List Cond := [Cond.selects RX3 yX3_runCurrent yX3_runCurrent, Cond.code yX3_runCurrent cX3_runCurrent 2 none, Cond.fieldLink RX3 65 "ScannedDigits$State" "current" "F", Cond.constantFloat RX3 140 (1075838976), Cond.constantFloat RX3 141 (1040187392), Cond.fieldLink RX3 69 "ScannedDigits$State" "peak" "F", Cond.fieldLink RX3 72 "ScannedDigits$State" "charge" "F", Cond.constantFloat RX3 142 (981668463), Cond.methodLink RX3 137 yX3_frameLength, Cond.instanceMethod yX3_frameLength, Cond.selects RX3 yX3_frameLength yX3_frameLength, Cond.code yX3_frameLength cX3_frameLength 1 (some .int), Cond.methodLink RX3 82 yX3_beginFrame, Cond.instanceMethod yX3_beginFrame, Cond.selects RX3 yX3_beginFrame yX3_beginFrame, Cond.code yX3_beginFrame cX3_beginFrame 1 none]
def wsX3_runTick : List Cond := .code yX3_runTick cX3_runTick 4 (some .int) :: ((wsX3_runTick_r1 ++ (wsX3_runTick_r2 ++ (wsX3_runTick_r3 ++ wsX3_runTick_r4))) ++ wsX30 ++ wsX00)
def wsX3_runTicks_r1 : List Cond := [Cond.methodLink RX3 123 yX3_runTick, Cond.instanceMethod yX3_runTick, Cond.selects RX3 yX3_runTick yX3_runTick, Cond.initialized RX3, Cond.code yX3_runTick cX3_runTick 4 (some .int), Cond.fieldLink RX3 11 "ScannedDigits$State" "digits" "[LScannedDigits$Digit;", Cond.fieldLink RX3 129 "ScannedDigits$Digit" "drivenTicks" "I", Cond.fieldLink RX3 62 "ScannedDigits$State" "drivenTicks" "I", Cond.fieldLink RX3 17 "ScannedDigits$State" "digitCount" "I", Cond.fieldLink RX3 36 "ScannedDigits$State" "settings" "[I", Cond.fieldLink RX3 50 "ScannedDigits$State" "time" "I", Cond.fieldLink RX3 56 "ScannedDigits$State" "frameTicks" "I", Cond.methodLink RX3 116 yX3_slotNow, Cond.instanceMethod yX3_slotNow, Cond.selects RX3 yX3_slotNow yX3_slotNow, Cond.code yX3_slotNow cX3_slotNow 3 (some .int), Cond.fieldLink RX3 85 "ScannedDigits$Digit" "width" "I", Cond.methodLink RX3 126 yX3_litNext, Cond.instanceMethod yX3_litNext, Cond.selects RX3 yX3_litNext yX3_litNext, Cond.code yX3_litNext cX3_litNext 3 (some .int), Cond.fieldLink RX3 59 "ScannedDigits$State" "testFrames" "I", Cond.fieldLink RX3 88 "ScannedDigits$Digit" "pattern" "I", Cond.fieldLink RX3 98 "ScannedDigits$Digit" "broken" "I"]
def wsX3_runTicks_r2 : List Cond := [Cond.methodLink RX3 120 yX3_isDriven, Cond.instanceMethod yX3_isDriven, Cond.selects RX3 yX3_isDriven yX3_isDriven, Cond.code yX3_isDriven cX3_isDriven 5 (some .boolean), Cond.fieldLink RX3 106 "ScannedDigits$Digit" "brightness" "I", Cond.fieldLink RX3 95 "ScannedDigits$Digit" "group" "I", Cond.methodLink RX3 109 yX0_litPartAt, Cond.instanceMethod yX0_litPartAt, Cond.selects RX0 yX0_litPartAt yX0_litPartAt, Cond.initialized RX0, Cond.code yX0_litPartAt cX0_litPartAt 2 (some .int), Cond.fieldLink RX0 21 "ScannedDigits$Digit" "width" "I", Cond.fieldLink RX0 25 "ScannedDigits$Digit" "guard" "I", Cond.methodLink RX3 91 yX3_slotStart, Cond.instanceMethod yX3_slotStart, Cond.selects RX3 yX3_slotStart yX3_slotStart, Cond.code yX3_slotStart cX3_slotStart 4 (some .int), Cond.methodLink RX3 112 yX3_isGroupOn, Cond.instanceMethod yX3_isGroupOn, Cond.selects RX3 yX3_isGroupOn yX3_isGroupOn, Cond.code yX3_isGroupOn cX3_isGroupOn 3 (some .boolean), Cond.fieldLink RX3 21 "ScannedDigits$State" "on" "[I", Cond.fieldLink RX3 25 "ScannedDigits$State" "off" "[I", Cond.fieldLink RX3 53 "ScannedDigits$State" "frame" "I"]
def wsX3_runTicks_r3 : List Cond := [Cond.methodLink RX3 130 yX0_runTick, Cond.instanceMethod yX0_runTick, Cond.selects RX0 yX0_runTick yX0_runTick, Cond.code yX0_runTick cX0_runTick 5 none, Cond.fieldLink RX0 9 "ScannedDigits$Digit" "glow" "[I", Cond.fieldLink RX0 15 "ScannedDigits$Digit" "use" "[I", Cond.fieldLink RX0 43 "ScannedDigits$Digit" "broken" "I", Cond.static yX5_glowUnlit, Cond.initialized RX5, Cond.code yX5_glowUnlit cX5_glowUnlit 3 (some .int), Cond.methodLink RX5 234 Lib.Math.max.name, Cond.static Lib.Math.max.name, Cond.initialized "java/lang/Math", Cond.code Lib.Math.max.name Lib.Math.max.code 2 (some .int), Cond.static yX5_glowLit, Cond.code yX5_glowLit cX5_glowLit 2 (some .int), Cond.methodLink RX5 240 Lib.Math.min.name, Cond.static Lib.Math.min.name, Cond.code Lib.Math.min.name Lib.Math.min.code 2 (some .int), Cond.methodLink RX3 101 yJ6_bitCount_0f7a4, Cond.static yJ6_bitCount_0f7a4, Cond.initialized RJ6, Cond.code yJ6_bitCount_0f7a4 cJ6_bitCount_0f7a4 1 (some .int), Cond.constant RJ6 265 (1431655765)]
def wsX3_runTicks_r4 : List Cond := [Cond.constant RJ6 266 (858993459), Cond.constant RJ6 267 (252645135), Cond.methodLink RX3 133 yX3_runCurrent, Cond.instanceMethod yX3_runCurrent, Cond.selects RX3 yX3_runCurrent yX3_runCurrent, Cond.code yX3_runCurrent cX3_runCurrent 2 none, Cond.fieldLink RX3 65 "ScannedDigits$State" "current" "F", Cond.constantFloat RX3 140 (1075838976), Cond.constantFloat RX3 141 (1040187392), Cond.fieldLink RX3 69 "ScannedDigits$State" "peak" "F", Cond.fieldLink RX3 72 "ScannedDigits$State" "charge" "F", Cond.constantFloat RX3 142 (981668463), Cond.methodLink RX3 137 yX3_frameLength, Cond.instanceMethod yX3_frameLength, Cond.selects RX3 yX3_frameLength yX3_frameLength, Cond.code yX3_frameLength cX3_frameLength 1 (some .int), Cond.methodLink RX3 82 yX3_beginFrame, Cond.instanceMethod yX3_beginFrame, Cond.selects RX3 yX3_beginFrame yX3_beginFrame, Cond.code yX3_beginFrame cX3_beginFrame 1 none]
def wsX3_runTicks : List Cond := .code yX3_runTicks cX3_runTicks 4 (some .int) :: ((wsX3_runTicks_r1 ++ (wsX3_runTicks_r2 ++ (wsX3_runTicks_r3 ++ wsX3_runTicks_r4))) ++ wsX30 ++ wsX00)
def wsX4_init : List Cond := .code yX4_init cX4_init 1 none :: ([.methodLink RX4 3 objectInit, .instanceMethod objectInit, .code objectInit ⟨#[0xb1]⟩ 1 none, .arrayClass .char, .fieldLink RX4 9 "ScannedDigits$Text" "characters" "[C", .arrayClass .int, .fieldLink RX4 15 "ScannedDigits$Text" "patterns" "[I"] ++ wsX40)
def wsX4_isFull : List Cond := .code yX4_isFull cX4_isFull 1 (some .boolean) :: ([.fieldLink RX4 19 "ScannedDigits$Text" "length" "I"] ++ wsX40)
def wsX4_append : List Cond := .code yX4_append cX4_append 2 none :: ([.fieldLink RX4 9 "ScannedDigits$Text" "characters" "[C", .fieldLink RX4 19 "ScannedDigits$Text" "length" "I"] ++ wsX40)
def wsX5_patternOf : List Cond := .code yX5_patternOf cX5_patternOf 2 (some .int) :: ([.fieldLink RX5 230 "ScannedDigits" "CHARACTERS" "[C", .fieldLink RX5 227 "ScannedDigits" "PATTERNS" "[I"])
def wsX4_layOut : List Cond := .code yX4_layOut cX4_layOut 6 (some .int) :: ([.fieldLink RX4 15 "ScannedDigits$Text" "patterns" "[I", .fieldLink RX4 23 "ScannedDigits$Text" "needed" "I", .fieldLink RX4 19 "ScannedDigits$Text" "length" "I", .fieldLink RX4 9 "ScannedDigits$Text" "characters" "[C", .static yX5_patternOf, .initialized RX5, .code yX5_patternOf cX5_patternOf 2 (some .int), .fieldLink RX5 230 "ScannedDigits" "CHARACTERS" "[C", .fieldLink RX5 227 "ScannedDigits" "PATTERNS" "[I"] ++ wsX40)
def wsX5_init_r1 : List Cond := [Cond.methodLink RX5 1 objectInit, Cond.instanceMethod objectInit, Cond.code objectInit ⟨#[0xb1]⟩ 1 none, Cond.classLink RX5 7 RX3, Cond.instantiable RX3 13, Cond.initialized RX3, Cond.fieldLink RX5 10 "ScannedDigits" "now" "LScannedDigits$State;", Cond.fieldLink RX5 16 "ScannedDigits" "future" "LScannedDigits$State;", Cond.classLink RX5 19 RX1, Cond.instantiable RX1 3, Cond.initialized RX1, Cond.fieldLink RX5 22 "ScannedDigits" "history" "LScannedDigits$History;", Cond.classLink RX5 26 RX2, Cond.fieldLink RX5 28 "ScannedDigits" "snapshots" "[LScannedDigits$Snapshot;", Cond.classLink RX5 32 RX4, Cond.instantiable RX4 4, Cond.initialized RX4, Cond.fieldLink RX5 35 "ScannedDigits" "text" "LScannedDigits$Text;", Cond.instantiable RX2 2, Cond.initialized RX2, Cond.methodLink RX5 9 yX3_init, Cond.instanceMethod yX3_init, Cond.code yX3_init cX3_init 2 none, Cond.methodLink RX3 3 objectInit]
def wsX5_init_r2 : List Cond := [Cond.classLink RX3 9 RX0, Cond.fieldLink RX3 11 "ScannedDigits$State" "digits" "[LScannedDigits$Digit;", Cond.fieldLink RX3 17 "ScannedDigits$State" "digitCount" "I", Cond.arrayClass .int, Cond.fieldLink RX3 21 "ScannedDigits$State" "on" "[I", Cond.fieldLink RX3 25 "ScannedDigits$State" "off" "[I", Cond.methodLink RX3 31 ⟨"[I", "clone", "()Ljava/lang/Object;"⟩, Cond.sameMethod "[I" "java/lang/Object" "clone" "()Ljava/lang/Object;", Cond.native ⟨"java/lang/Object", "clone", "()Ljava/lang/Object;"⟩, Cond.instanceMethod ⟨"java/lang/Object", "clone", "()Ljava/lang/Object;"⟩, Cond.selects "[I" ⟨"[I", "clone", "()Ljava/lang/Object;"⟩ ⟨"java/lang/Object", "clone", "()Ljava/lang/Object;"⟩, Cond.classLink RX3 32 "[I", Cond.fieldLink RX3 36 "ScannedDigits$State" "settings" "[I", Cond.instantiable RX0 9, Cond.initialized RX0, Cond.methodLink RX3 39 yX0_init, Cond.instanceMethod yX0_init, Cond.code yX0_init cX0_init 1 none, Cond.methodLink RX0 3 objectInit, Cond.fieldLink RX0 9 "ScannedDigits$Digit" "glow" "[I", Cond.fieldLink RX0 15 "ScannedDigits$Digit" "use" "[I", Cond.methodLink RX0 18 yX0_makeNew, Cond.instanceMethod yX0_makeNew, Cond.selects RX0 yX0_makeNew yX0_makeNew]
def wsX5_init_r3 : List Cond := [Cond.code yX0_makeNew cX0_makeNew 1 none, Cond.fieldLink RX0 21 "ScannedDigits$Digit" "width" "I", Cond.fieldLink RX0 25 "ScannedDigits$Digit" "guard" "I", Cond.fieldLink RX0 28 "ScannedDigits$Digit" "brightness" "I", Cond.fieldLink RX0 31 "ScannedDigits$Digit" "pattern" "I", Cond.fieldLink RX0 34 "ScannedDigits$Digit" "group" "I", Cond.fieldLink RX0 37 "ScannedDigits$Digit" "drivenTicks" "I", Cond.methodLink RX0 40 yX0_renewSegments, Cond.instanceMethod yX0_renewSegments, Cond.selects RX0 yX0_renewSegments yX0_renewSegments, Cond.code yX0_renewSegments cX0_renewSegments 2 none, Cond.fieldLink RX0 43 "ScannedDigits$Digit" "broken" "I", Cond.methodLink RX5 21 yX1_init, Cond.instanceMethod yX1_init, Cond.code yX1_init cX1_init 2 none, Cond.methodLink RX1 3 objectInit, Cond.classLink RX1 9 RX3, Cond.fieldLink RX1 11 "ScannedDigits$History" "rows" "[LScannedDigits$State;", Cond.methodLink RX1 17 yX3_init, Cond.instanceMethod yX4_init, Cond.code yX4_init cX4_init 1 none, Cond.methodLink RX4 3 objectInit, Cond.arrayClass .char, Cond.fieldLink RX4 9 "ScannedDigits$Text" "characters" "[C"]
def wsX5_init_r4 : List Cond := [Cond.fieldLink RX4 15 "ScannedDigits$Text" "patterns" "[I", Cond.instanceMethod yX2_init, Cond.code yX2_init cX2_init 1 none, Cond.methodLink RX2 1 objectInit, Cond.classLink RX2 7 RX3, Cond.fieldLink RX2 10 "ScannedDigits$Snapshot" "state" "LScannedDigits$State;", Cond.methodLink RX2 9 yX3_init]
def wsX5_init : List Cond := .code yX5_init cX5_init 2 none :: ((wsX5_init_r1 ++ (wsX5_init_r2 ++ (wsX5_init_r3 ++ wsX5_init_r4))) ++ wsX30 ++ wsX50 ++ wsX10 ++ wsX40 ++ wsX20 ++ wsX00)
def wsX5_setDigits_r1 : List Cond := [Cond.fieldLink RX5 22 "ScannedDigits" "history" "LScannedDigits$History;", Cond.fieldLink RX5 10 "ScannedDigits" "now" "LScannedDigits$State;", Cond.fieldLink RX5 48 "ScannedDigits$State" "digitCount" "I", Cond.methodLink RX5 40 yX5_isWithin, Cond.static yX5_isWithin, Cond.initialized RX5, Cond.code yX5_isWithin cX5_isWithin 3 (some .boolean), Cond.methodLink RX5 44 yX1_record, Cond.instanceMethod yX1_record, Cond.selects RX1 yX1_record yX1_record, Cond.initialized RX1, Cond.code yX1_record cX1_record 2 none, Cond.fieldLink RX1 11 "ScannedDigits$History" "rows" "[LScannedDigits$State;", Cond.fieldLink RX1 18 "ScannedDigits$History" "next" "I", Cond.fieldLink RX1 26 "ScannedDigits$History" "size" "I", Cond.methodLink RX1 29 Lib.Math.min.name, Cond.static Lib.Math.min.name, Cond.initialized "java/lang/Math", Cond.code Lib.Math.min.name Lib.Math.min.code 2 (some .int), Cond.methodLink RX1 22 yX3_copyFrom, Cond.instanceMethod yX3_copyFrom, Cond.selects RX3 yX3_copyFrom yX3_copyFrom, Cond.initialized RX3, Cond.code yX3_copyFrom cX3_copyFrom 3 none]
def wsX5_setDigits_r2 : List Cond := [Cond.fieldLink RX3 11 "ScannedDigits$State" "digits" "[LScannedDigits$Digit;", Cond.fieldLink RX3 17 "ScannedDigits$State" "digitCount" "I", Cond.fieldLink RX3 21 "ScannedDigits$State" "on" "[I", Cond.methodLink RX3 44 arraycopyName, Cond.native arraycopyName, Cond.static arraycopyName, Cond.initialized "java/lang/System", Cond.fieldLink RX3 25 "ScannedDigits$State" "off" "[I", Cond.fieldLink RX3 36 "ScannedDigits$State" "settings" "[I", Cond.fieldLink RX3 50 "ScannedDigits$State" "time" "I", Cond.fieldLink RX3 53 "ScannedDigits$State" "frame" "I", Cond.fieldLink RX3 56 "ScannedDigits$State" "frameTicks" "I", Cond.fieldLink RX3 59 "ScannedDigits$State" "testFrames" "I", Cond.fieldLink RX3 62 "ScannedDigits$State" "drivenTicks" "I", Cond.fieldLink RX3 65 "ScannedDigits$State" "current" "F", Cond.fieldLink RX3 69 "ScannedDigits$State" "peak" "F", Cond.fieldLink RX3 72 "ScannedDigits$State" "charge" "F", Cond.methodLink RX3 40 yX0_copyFrom, Cond.instanceMethod yX0_copyFrom, Cond.selects RX0 yX0_copyFrom yX0_copyFrom, Cond.initialized RX0, Cond.code yX0_copyFrom cX0_copyFrom 2 none, Cond.fieldLink RX0 21 "ScannedDigits$Digit" "width" "I", Cond.fieldLink RX0 25 "ScannedDigits$Digit" "guard" "I"]
def wsX5_setDigits_r3 : List Cond := [Cond.fieldLink RX0 28 "ScannedDigits$Digit" "brightness" "I", Cond.fieldLink RX0 31 "ScannedDigits$Digit" "pattern" "I", Cond.fieldLink RX0 34 "ScannedDigits$Digit" "group" "I", Cond.fieldLink RX0 37 "ScannedDigits$Digit" "drivenTicks" "I", Cond.fieldLink RX0 43 "ScannedDigits$Digit" "broken" "I", Cond.fieldLink RX0 9 "ScannedDigits$Digit" "glow" "[I", Cond.methodLink RX0 46 arraycopyName, Cond.fieldLink RX0 15 "ScannedDigits$Digit" "use" "[I", Cond.methodLink RX5 52 yX3_changeDigitCount, Cond.instanceMethod yX3_changeDigitCount, Cond.selects RX3 yX3_changeDigitCount yX3_changeDigitCount, Cond.code yX3_changeDigitCount cX3_changeDigitCount 3 none, Cond.methodLink RX3 79 yX0_makeNew, Cond.instanceMethod yX0_makeNew, Cond.selects RX0 yX0_makeNew yX0_makeNew, Cond.code yX0_makeNew cX0_makeNew 1 none, Cond.methodLink RX0 40 yX0_renewSegments, Cond.instanceMethod yX0_renewSegments, Cond.selects RX0 yX0_renewSegments yX0_renewSegments, Cond.code yX0_renewSegments cX0_renewSegments 2 none, Cond.methodLink RX3 82 yX3_beginFrame, Cond.instanceMethod yX3_beginFrame, Cond.selects RX3 yX3_beginFrame yX3_beginFrame, Cond.code yX3_beginFrame cX3_beginFrame 1 none]
def wsX5_setDigits : List Cond := .code yX5_setDigits cX5_setDigits 3 (some .int) :: ((wsX5_setDigits_r1 ++ (wsX5_setDigits_r2 ++ wsX5_setDigits_r3)) ++ wsX50 ++ wsX30 ++ wsX10 ++ wsX00)
def wsX5_setWidth_r1 : List Cond := [Cond.fieldLink RX5 10 "ScannedDigits" "now" "LScannedDigits$State;", Cond.fieldLink RX5 22 "ScannedDigits" "history" "LScannedDigits$History;", Cond.methodLink RX5 56 yX3_find, Cond.instanceMethod yX3_find, Cond.selects RX3 yX3_find yX3_find, Cond.initialized RX3, Cond.code yX3_find cX3_find 2 (some (.object "ScannedDigits$Digit")), Cond.fieldLink RX3 17 "ScannedDigits$State" "digitCount" "I", Cond.fieldLink RX3 11 "ScannedDigits$State" "digits" "[LScannedDigits$Digit;", Cond.static yX5_isWithin, Cond.initialized RX5, Cond.code yX5_isWithin cX5_isWithin 3 (some .boolean), Cond.methodLink RX5 40 yX5_isWithin, Cond.methodLink RX5 44 yX1_record, Cond.instanceMethod yX1_record, Cond.selects RX1 yX1_record yX1_record, Cond.initialized RX1, Cond.code yX1_record cX1_record 2 none, Cond.fieldLink RX1 11 "ScannedDigits$History" "rows" "[LScannedDigits$State;", Cond.fieldLink RX1 18 "ScannedDigits$History" "next" "I", Cond.fieldLink RX1 26 "ScannedDigits$History" "size" "I", Cond.methodLink RX1 29 Lib.Math.min.name, Cond.static Lib.Math.min.name, Cond.initialized "java/lang/Math"]
def wsX5_setWidth_r2 : List Cond := [Cond.code Lib.Math.min.name Lib.Math.min.code 2 (some .int), Cond.methodLink RX1 22 yX3_copyFrom, Cond.instanceMethod yX3_copyFrom, Cond.selects RX3 yX3_copyFrom yX3_copyFrom, Cond.code yX3_copyFrom cX3_copyFrom 3 none, Cond.fieldLink RX3 21 "ScannedDigits$State" "on" "[I", Cond.methodLink RX3 44 arraycopyName, Cond.native arraycopyName, Cond.static arraycopyName, Cond.initialized "java/lang/System", Cond.fieldLink RX3 25 "ScannedDigits$State" "off" "[I", Cond.fieldLink RX3 36 "ScannedDigits$State" "settings" "[I", Cond.fieldLink RX3 50 "ScannedDigits$State" "time" "I", Cond.fieldLink RX3 53 "ScannedDigits$State" "frame" "I", Cond.fieldLink RX3 56 "ScannedDigits$State" "frameTicks" "I", Cond.fieldLink RX3 59 "ScannedDigits$State" "testFrames" "I", Cond.fieldLink RX3 62 "ScannedDigits$State" "drivenTicks" "I", Cond.fieldLink RX3 65 "ScannedDigits$State" "current" "F", Cond.fieldLink RX3 69 "ScannedDigits$State" "peak" "F", Cond.fieldLink RX3 72 "ScannedDigits$State" "charge" "F", Cond.methodLink RX3 40 yX0_copyFrom, Cond.instanceMethod yX0_copyFrom, Cond.selects RX0 yX0_copyFrom yX0_copyFrom, Cond.initialized RX0]
def wsX5_setWidth_r3 : List Cond := [Cond.code yX0_copyFrom cX0_copyFrom 2 none, Cond.fieldLink RX0 21 "ScannedDigits$Digit" "width" "I", Cond.fieldLink RX0 25 "ScannedDigits$Digit" "guard" "I", Cond.fieldLink RX0 28 "ScannedDigits$Digit" "brightness" "I", Cond.fieldLink RX0 31 "ScannedDigits$Digit" "pattern" "I", Cond.fieldLink RX0 34 "ScannedDigits$Digit" "group" "I", Cond.fieldLink RX0 37 "ScannedDigits$Digit" "drivenTicks" "I", Cond.fieldLink RX0 43 "ScannedDigits$Digit" "broken" "I", Cond.fieldLink RX0 9 "ScannedDigits$Digit" "glow" "[I", Cond.methodLink RX0 46 arraycopyName, Cond.fieldLink RX0 15 "ScannedDigits$Digit" "use" "[I", Cond.methodLink RX5 60 yX3_changeWidth, Cond.instanceMethod yX3_changeWidth, Cond.selects RX3 yX3_changeWidth yX3_changeWidth, Cond.code yX3_changeWidth cX3_changeWidth 3 none, Cond.fieldLink RX3 85 "ScannedDigits$Digit" "width" "I", Cond.methodLink RX3 82 yX3_beginFrame, Cond.instanceMethod yX3_beginFrame, Cond.selects RX3 yX3_beginFrame yX3_beginFrame, Cond.code yX3_beginFrame cX3_beginFrame 1 none, Cond.methodLink RX5 64 yX3_frameLength, Cond.instanceMethod yX3_frameLength, Cond.selects RX3 yX3_frameLength yX3_frameLength, Cond.code yX3_frameLength cX3_frameLength 1 (some .int)]
def wsX5_setWidth_r4 : List Cond := [Cond.methodLink RX3 91 yX3_slotStart, Cond.instanceMethod yX3_slotStart, Cond.selects RX3 yX3_slotStart yX3_slotStart, Cond.code yX3_slotStart cX3_slotStart 4 (some .int)]
def wsX5_setWidth : List Cond := .code yX5_setWidth cX5_setWidth 4 (some .int) :: ((wsX5_setWidth_r1 ++ (wsX5_setWidth_r2 ++ (wsX5_setWidth_r3 ++ wsX5_setWidth_r4))) ++ wsX50 ++ wsX30 ++ wsX10 ++ wsX00)
def wsX5_setGuard_r1 : List Cond := [Cond.fieldLink RX5 10 "ScannedDigits" "now" "LScannedDigits$State;", Cond.fieldLink RX5 22 "ScannedDigits" "history" "LScannedDigits$History;", Cond.fieldLink RX5 68 "ScannedDigits$Digit" "guard" "I", Cond.methodLink RX5 56 yX3_find, Cond.instanceMethod yX3_find, Cond.selects RX3 yX3_find yX3_find, Cond.initialized RX3, Cond.code yX3_find cX3_find 2 (some (.object "ScannedDigits$Digit")), Cond.fieldLink RX3 17 "ScannedDigits$State" "digitCount" "I", Cond.fieldLink RX3 11 "ScannedDigits$State" "digits" "[LScannedDigits$Digit;", Cond.static yX5_isWithin, Cond.initialized RX5, Cond.code yX5_isWithin cX5_isWithin 3 (some .boolean), Cond.methodLink RX5 40 yX5_isWithin, Cond.methodLink RX5 44 yX1_record, Cond.instanceMethod yX1_record, Cond.selects RX1 yX1_record yX1_record, Cond.initialized RX1, Cond.code yX1_record cX1_record 2 none, Cond.fieldLink RX1 11 "ScannedDigits$History" "rows" "[LScannedDigits$State;", Cond.fieldLink RX1 18 "ScannedDigits$History" "next" "I", Cond.fieldLink RX1 26 "ScannedDigits$History" "size" "I", Cond.methodLink RX1 29 Lib.Math.min.name, Cond.static Lib.Math.min.name]
def wsX5_setGuard_r2 : List Cond := [Cond.initialized "java/lang/Math", Cond.code Lib.Math.min.name Lib.Math.min.code 2 (some .int), Cond.methodLink RX1 22 yX3_copyFrom, Cond.instanceMethod yX3_copyFrom, Cond.selects RX3 yX3_copyFrom yX3_copyFrom, Cond.code yX3_copyFrom cX3_copyFrom 3 none, Cond.fieldLink RX3 21 "ScannedDigits$State" "on" "[I", Cond.methodLink RX3 44 arraycopyName, Cond.native arraycopyName, Cond.static arraycopyName, Cond.initialized "java/lang/System", Cond.fieldLink RX3 25 "ScannedDigits$State" "off" "[I", Cond.fieldLink RX3 36 "ScannedDigits$State" "settings" "[I", Cond.fieldLink RX3 50 "ScannedDigits$State" "time" "I", Cond.fieldLink RX3 53 "ScannedDigits$State" "frame" "I", Cond.fieldLink RX3 56 "ScannedDigits$State" "frameTicks" "I", Cond.fieldLink RX3 59 "ScannedDigits$State" "testFrames" "I", Cond.fieldLink RX3 62 "ScannedDigits$State" "drivenTicks" "I", Cond.fieldLink RX3 65 "ScannedDigits$State" "current" "F", Cond.fieldLink RX3 69 "ScannedDigits$State" "peak" "F", Cond.fieldLink RX3 72 "ScannedDigits$State" "charge" "F", Cond.methodLink RX3 40 yX0_copyFrom, Cond.instanceMethod yX0_copyFrom, Cond.selects RX0 yX0_copyFrom yX0_copyFrom]
def wsX5_setGuard_r3 : List Cond := [Cond.initialized RX0, Cond.code yX0_copyFrom cX0_copyFrom 2 none, Cond.fieldLink RX0 21 "ScannedDigits$Digit" "width" "I", Cond.fieldLink RX0 25 "ScannedDigits$Digit" "guard" "I", Cond.fieldLink RX0 28 "ScannedDigits$Digit" "brightness" "I", Cond.fieldLink RX0 31 "ScannedDigits$Digit" "pattern" "I", Cond.fieldLink RX0 34 "ScannedDigits$Digit" "group" "I", Cond.fieldLink RX0 37 "ScannedDigits$Digit" "drivenTicks" "I", Cond.fieldLink RX0 43 "ScannedDigits$Digit" "broken" "I", Cond.fieldLink RX0 9 "ScannedDigits$Digit" "glow" "[I", Cond.methodLink RX0 46 arraycopyName, Cond.fieldLink RX0 15 "ScannedDigits$Digit" "use" "[I", Cond.methodLink RX5 73 yX0_litPart, Cond.instanceMethod yX0_litPart, Cond.selects RX0 yX0_litPart yX0_litPart, Cond.code yX0_litPart cX0_litPart 1 (some .int), Cond.methodLink RX0 52 yX0_litPartAt, Cond.instanceMethod yX0_litPartAt, Cond.selects RX0 yX0_litPartAt yX0_litPartAt, Cond.code yX0_litPartAt cX0_litPartAt 2 (some .int)]
def wsX5_setGuard : List Cond := .code yX5_setGuard cX5_setGuard 4 (some .int) :: ((wsX5_setGuard_r1 ++ (wsX5_setGuard_r2 ++ wsX5_setGuard_r3)) ++ wsX50 ++ wsX00 ++ wsX30 ++ wsX10)
def wsX5_setBrightness_r1 : List Cond := [Cond.fieldLink RX5 10 "ScannedDigits" "now" "LScannedDigits$State;", Cond.fieldLink RX5 22 "ScannedDigits" "history" "LScannedDigits$History;", Cond.fieldLink RX5 76 "ScannedDigits$Digit" "brightness" "I", Cond.methodLink RX5 56 yX3_find, Cond.instanceMethod yX3_find, Cond.selects RX3 yX3_find yX3_find, Cond.initialized RX3, Cond.code yX3_find cX3_find 2 (some (.object "ScannedDigits$Digit")), Cond.fieldLink RX3 17 "ScannedDigits$State" "digitCount" "I", Cond.fieldLink RX3 11 "ScannedDigits$State" "digits" "[LScannedDigits$Digit;", Cond.static yX5_isWithin, Cond.initialized RX5, Cond.code yX5_isWithin cX5_isWithin 3 (some .boolean), Cond.methodLink RX5 40 yX5_isWithin, Cond.methodLink RX5 44 yX1_record, Cond.instanceMethod yX1_record, Cond.selects RX1 yX1_record yX1_record, Cond.initialized RX1, Cond.code yX1_record cX1_record 2 none, Cond.fieldLink RX1 11 "ScannedDigits$History" "rows" "[LScannedDigits$State;", Cond.fieldLink RX1 18 "ScannedDigits$History" "next" "I", Cond.fieldLink RX1 26 "ScannedDigits$History" "size" "I", Cond.methodLink RX1 29 Lib.Math.min.name, Cond.static Lib.Math.min.name]
def wsX5_setBrightness_r2 : List Cond := [Cond.initialized "java/lang/Math", Cond.code Lib.Math.min.name Lib.Math.min.code 2 (some .int), Cond.methodLink RX1 22 yX3_copyFrom, Cond.instanceMethod yX3_copyFrom, Cond.selects RX3 yX3_copyFrom yX3_copyFrom, Cond.code yX3_copyFrom cX3_copyFrom 3 none, Cond.fieldLink RX3 21 "ScannedDigits$State" "on" "[I", Cond.methodLink RX3 44 arraycopyName, Cond.native arraycopyName, Cond.static arraycopyName, Cond.initialized "java/lang/System", Cond.fieldLink RX3 25 "ScannedDigits$State" "off" "[I", Cond.fieldLink RX3 36 "ScannedDigits$State" "settings" "[I", Cond.fieldLink RX3 50 "ScannedDigits$State" "time" "I", Cond.fieldLink RX3 53 "ScannedDigits$State" "frame" "I", Cond.fieldLink RX3 56 "ScannedDigits$State" "frameTicks" "I", Cond.fieldLink RX3 59 "ScannedDigits$State" "testFrames" "I", Cond.fieldLink RX3 62 "ScannedDigits$State" "drivenTicks" "I", Cond.fieldLink RX3 65 "ScannedDigits$State" "current" "F", Cond.fieldLink RX3 69 "ScannedDigits$State" "peak" "F", Cond.fieldLink RX3 72 "ScannedDigits$State" "charge" "F", Cond.methodLink RX3 40 yX0_copyFrom, Cond.instanceMethod yX0_copyFrom, Cond.selects RX0 yX0_copyFrom yX0_copyFrom]
def wsX5_setBrightness_r3 : List Cond := [Cond.initialized RX0, Cond.code yX0_copyFrom cX0_copyFrom 2 none, Cond.fieldLink RX0 21 "ScannedDigits$Digit" "width" "I", Cond.fieldLink RX0 25 "ScannedDigits$Digit" "guard" "I", Cond.fieldLink RX0 28 "ScannedDigits$Digit" "brightness" "I", Cond.fieldLink RX0 31 "ScannedDigits$Digit" "pattern" "I", Cond.fieldLink RX0 34 "ScannedDigits$Digit" "group" "I", Cond.fieldLink RX0 37 "ScannedDigits$Digit" "drivenTicks" "I", Cond.fieldLink RX0 43 "ScannedDigits$Digit" "broken" "I", Cond.fieldLink RX0 9 "ScannedDigits$Digit" "glow" "[I", Cond.methodLink RX0 46 arraycopyName, Cond.fieldLink RX0 15 "ScannedDigits$Digit" "use" "[I", Cond.methodLink RX5 73 yX0_litPart, Cond.instanceMethod yX0_litPart, Cond.selects RX0 yX0_litPart yX0_litPart, Cond.code yX0_litPart cX0_litPart 1 (some .int), Cond.methodLink RX0 52 yX0_litPartAt, Cond.instanceMethod yX0_litPartAt, Cond.selects RX0 yX0_litPartAt yX0_litPartAt, Cond.code yX0_litPartAt cX0_litPartAt 2 (some .int)]
def wsX5_setBrightness : List Cond := .code yX5_setBrightness cX5_setBrightness 4 (some .int) :: ((wsX5_setBrightness_r1 ++ (wsX5_setBrightness_r2 ++ wsX5_setBrightness_r3)) ++ wsX50 ++ wsX00 ++ wsX30 ++ wsX10)
def wsX5_setPattern_r1 : List Cond := [Cond.fieldLink RX5 10 "ScannedDigits" "now" "LScannedDigits$State;", Cond.fieldLink RX5 22 "ScannedDigits" "history" "LScannedDigits$History;", Cond.fieldLink RX5 79 "ScannedDigits$Digit" "pattern" "I", Cond.methodLink RX5 56 yX3_find, Cond.instanceMethod yX3_find, Cond.selects RX3 yX3_find yX3_find, Cond.initialized RX3, Cond.code yX3_find cX3_find 2 (some (.object "ScannedDigits$Digit")), Cond.fieldLink RX3 17 "ScannedDigits$State" "digitCount" "I", Cond.fieldLink RX3 11 "ScannedDigits$State" "digits" "[LScannedDigits$Digit;", Cond.static yX5_isWithin, Cond.initialized RX5, Cond.code yX5_isWithin cX5_isWithin 3 (some .boolean), Cond.methodLink RX5 40 yX5_isWithin, Cond.methodLink RX5 44 yX1_record, Cond.instanceMethod yX1_record, Cond.selects RX1 yX1_record yX1_record, Cond.initialized RX1, Cond.code yX1_record cX1_record 2 none, Cond.fieldLink RX1 11 "ScannedDigits$History" "rows" "[LScannedDigits$State;", Cond.fieldLink RX1 18 "ScannedDigits$History" "next" "I", Cond.fieldLink RX1 26 "ScannedDigits$History" "size" "I", Cond.methodLink RX1 29 Lib.Math.min.name, Cond.static Lib.Math.min.name]
def wsX5_setPattern_r2 : List Cond := [Cond.initialized "java/lang/Math", Cond.code Lib.Math.min.name Lib.Math.min.code 2 (some .int), Cond.methodLink RX1 22 yX3_copyFrom, Cond.instanceMethod yX3_copyFrom, Cond.selects RX3 yX3_copyFrom yX3_copyFrom, Cond.code yX3_copyFrom cX3_copyFrom 3 none, Cond.fieldLink RX3 21 "ScannedDigits$State" "on" "[I", Cond.methodLink RX3 44 arraycopyName, Cond.native arraycopyName, Cond.static arraycopyName, Cond.initialized "java/lang/System", Cond.fieldLink RX3 25 "ScannedDigits$State" "off" "[I", Cond.fieldLink RX3 36 "ScannedDigits$State" "settings" "[I", Cond.fieldLink RX3 50 "ScannedDigits$State" "time" "I", Cond.fieldLink RX3 53 "ScannedDigits$State" "frame" "I", Cond.fieldLink RX3 56 "ScannedDigits$State" "frameTicks" "I", Cond.fieldLink RX3 59 "ScannedDigits$State" "testFrames" "I", Cond.fieldLink RX3 62 "ScannedDigits$State" "drivenTicks" "I", Cond.fieldLink RX3 65 "ScannedDigits$State" "current" "F", Cond.fieldLink RX3 69 "ScannedDigits$State" "peak" "F", Cond.fieldLink RX3 72 "ScannedDigits$State" "charge" "F", Cond.methodLink RX3 40 yX0_copyFrom, Cond.instanceMethod yX0_copyFrom, Cond.selects RX0 yX0_copyFrom yX0_copyFrom]
def wsX5_setPattern_r3 : List Cond := [Cond.initialized RX0, Cond.code yX0_copyFrom cX0_copyFrom 2 none, Cond.fieldLink RX0 21 "ScannedDigits$Digit" "width" "I", Cond.fieldLink RX0 25 "ScannedDigits$Digit" "guard" "I", Cond.fieldLink RX0 28 "ScannedDigits$Digit" "brightness" "I", Cond.fieldLink RX0 31 "ScannedDigits$Digit" "pattern" "I", Cond.fieldLink RX0 34 "ScannedDigits$Digit" "group" "I", Cond.fieldLink RX0 37 "ScannedDigits$Digit" "drivenTicks" "I", Cond.fieldLink RX0 43 "ScannedDigits$Digit" "broken" "I", Cond.fieldLink RX0 9 "ScannedDigits$Digit" "glow" "[I", Cond.methodLink RX0 46 arraycopyName, Cond.fieldLink RX0 15 "ScannedDigits$Digit" "use" "[I"]
def wsX5_setPattern : List Cond := .code yX5_setPattern cX5_setPattern 5 (some .int) :: ((wsX5_setPattern_r1 ++ (wsX5_setPattern_r2 ++ wsX5_setPattern_r3)) ++ wsX50 ++ wsX00 ++ wsX30 ++ wsX10)
def wsX5_setGroup_r1 : List Cond := [Cond.fieldLink RX5 10 "ScannedDigits" "now" "LScannedDigits$State;", Cond.fieldLink RX5 22 "ScannedDigits" "history" "LScannedDigits$History;", Cond.fieldLink RX5 82 "ScannedDigits$Digit" "group" "I", Cond.methodLink RX5 56 yX3_find, Cond.instanceMethod yX3_find, Cond.selects RX3 yX3_find yX3_find, Cond.initialized RX3, Cond.code yX3_find cX3_find 2 (some (.object "ScannedDigits$Digit")), Cond.fieldLink RX3 17 "ScannedDigits$State" "digitCount" "I", Cond.fieldLink RX3 11 "ScannedDigits$State" "digits" "[LScannedDigits$Digit;", Cond.static yX5_isWithin, Cond.initialized RX5, Cond.code yX5_isWithin cX5_isWithin 3 (some .boolean), Cond.methodLink RX5 40 yX5_isWithin, Cond.methodLink RX5 44 yX1_record, Cond.instanceMethod yX1_record, Cond.selects RX1 yX1_record yX1_record, Cond.initialized RX1, Cond.code yX1_record cX1_record 2 none, Cond.fieldLink RX1 11 "ScannedDigits$History" "rows" "[LScannedDigits$State;", Cond.fieldLink RX1 18 "ScannedDigits$History" "next" "I", Cond.fieldLink RX1 26 "ScannedDigits$History" "size" "I", Cond.methodLink RX1 29 Lib.Math.min.name, Cond.static Lib.Math.min.name]
def wsX5_setGroup_r2 : List Cond := [Cond.initialized "java/lang/Math", Cond.code Lib.Math.min.name Lib.Math.min.code 2 (some .int), Cond.methodLink RX1 22 yX3_copyFrom, Cond.instanceMethod yX3_copyFrom, Cond.selects RX3 yX3_copyFrom yX3_copyFrom, Cond.code yX3_copyFrom cX3_copyFrom 3 none, Cond.fieldLink RX3 21 "ScannedDigits$State" "on" "[I", Cond.methodLink RX3 44 arraycopyName, Cond.native arraycopyName, Cond.static arraycopyName, Cond.initialized "java/lang/System", Cond.fieldLink RX3 25 "ScannedDigits$State" "off" "[I", Cond.fieldLink RX3 36 "ScannedDigits$State" "settings" "[I", Cond.fieldLink RX3 50 "ScannedDigits$State" "time" "I", Cond.fieldLink RX3 53 "ScannedDigits$State" "frame" "I", Cond.fieldLink RX3 56 "ScannedDigits$State" "frameTicks" "I", Cond.fieldLink RX3 59 "ScannedDigits$State" "testFrames" "I", Cond.fieldLink RX3 62 "ScannedDigits$State" "drivenTicks" "I", Cond.fieldLink RX3 65 "ScannedDigits$State" "current" "F", Cond.fieldLink RX3 69 "ScannedDigits$State" "peak" "F", Cond.fieldLink RX3 72 "ScannedDigits$State" "charge" "F", Cond.methodLink RX3 40 yX0_copyFrom, Cond.instanceMethod yX0_copyFrom, Cond.selects RX0 yX0_copyFrom yX0_copyFrom]
def wsX5_setGroup_r3 : List Cond := [Cond.initialized RX0, Cond.code yX0_copyFrom cX0_copyFrom 2 none, Cond.fieldLink RX0 21 "ScannedDigits$Digit" "width" "I", Cond.fieldLink RX0 25 "ScannedDigits$Digit" "guard" "I", Cond.fieldLink RX0 28 "ScannedDigits$Digit" "brightness" "I", Cond.fieldLink RX0 31 "ScannedDigits$Digit" "pattern" "I", Cond.fieldLink RX0 34 "ScannedDigits$Digit" "group" "I", Cond.fieldLink RX0 37 "ScannedDigits$Digit" "drivenTicks" "I", Cond.fieldLink RX0 43 "ScannedDigits$Digit" "broken" "I", Cond.fieldLink RX0 9 "ScannedDigits$Digit" "glow" "[I", Cond.methodLink RX0 46 arraycopyName, Cond.fieldLink RX0 15 "ScannedDigits$Digit" "use" "[I"]
def wsX5_setGroup : List Cond := .code yX5_setGroup cX5_setGroup 5 (some .int) :: ((wsX5_setGroup_r1 ++ (wsX5_setGroup_r2 ++ wsX5_setGroup_r3)) ++ wsX50 ++ wsX00 ++ wsX30 ++ wsX10)
def wsX5_setBlink_r1 : List Cond := [Cond.fieldLink RX5 22 "ScannedDigits" "history" "LScannedDigits$History;", Cond.fieldLink RX5 10 "ScannedDigits" "now" "LScannedDigits$State;", Cond.fieldLink RX5 85 "ScannedDigits$State" "on" "[I", Cond.fieldLink RX5 89 "ScannedDigits$State" "off" "[I", Cond.methodLink RX5 40 yX5_isWithin, Cond.static yX5_isWithin, Cond.initialized RX5, Cond.code yX5_isWithin cX5_isWithin 3 (some .boolean), Cond.methodLink RX5 44 yX1_record, Cond.instanceMethod yX1_record, Cond.selects RX1 yX1_record yX1_record, Cond.initialized RX1, Cond.code yX1_record cX1_record 2 none, Cond.fieldLink RX1 11 "ScannedDigits$History" "rows" "[LScannedDigits$State;", Cond.fieldLink RX1 18 "ScannedDigits$History" "next" "I", Cond.fieldLink RX1 26 "ScannedDigits$History" "size" "I", Cond.methodLink RX1 29 Lib.Math.min.name, Cond.static Lib.Math.min.name, Cond.initialized "java/lang/Math", Cond.code Lib.Math.min.name Lib.Math.min.code 2 (some .int), Cond.methodLink RX1 22 yX3_copyFrom, Cond.instanceMethod yX3_copyFrom, Cond.selects RX3 yX3_copyFrom yX3_copyFrom, Cond.initialized RX3]
def wsX5_setBlink_r2 : List Cond := [Cond.code yX3_copyFrom cX3_copyFrom 3 none, Cond.fieldLink RX3 11 "ScannedDigits$State" "digits" "[LScannedDigits$Digit;", Cond.fieldLink RX3 17 "ScannedDigits$State" "digitCount" "I", Cond.fieldLink RX3 21 "ScannedDigits$State" "on" "[I", Cond.methodLink RX3 44 arraycopyName, Cond.native arraycopyName, Cond.static arraycopyName, Cond.initialized "java/lang/System", Cond.fieldLink RX3 25 "ScannedDigits$State" "off" "[I", Cond.fieldLink RX3 36 "ScannedDigits$State" "settings" "[I", Cond.fieldLink RX3 50 "ScannedDigits$State" "time" "I", Cond.fieldLink RX3 53 "ScannedDigits$State" "frame" "I", Cond.fieldLink RX3 56 "ScannedDigits$State" "frameTicks" "I", Cond.fieldLink RX3 59 "ScannedDigits$State" "testFrames" "I", Cond.fieldLink RX3 62 "ScannedDigits$State" "drivenTicks" "I", Cond.fieldLink RX3 65 "ScannedDigits$State" "current" "F", Cond.fieldLink RX3 69 "ScannedDigits$State" "peak" "F", Cond.fieldLink RX3 72 "ScannedDigits$State" "charge" "F", Cond.methodLink RX3 40 yX0_copyFrom, Cond.instanceMethod yX0_copyFrom, Cond.selects RX0 yX0_copyFrom yX0_copyFrom, Cond.initialized RX0, Cond.code yX0_copyFrom cX0_copyFrom 2 none, Cond.fieldLink RX0 21 "ScannedDigits$Digit" "width" "I"]
def wsX5_setBlink_r3 : List Cond := [Cond.fieldLink RX0 25 "ScannedDigits$Digit" "guard" "I", Cond.fieldLink RX0 28 "ScannedDigits$Digit" "brightness" "I", Cond.fieldLink RX0 31 "ScannedDigits$Digit" "pattern" "I", Cond.fieldLink RX0 34 "ScannedDigits$Digit" "group" "I", Cond.fieldLink RX0 37 "ScannedDigits$Digit" "drivenTicks" "I", Cond.fieldLink RX0 43 "ScannedDigits$Digit" "broken" "I", Cond.fieldLink RX0 9 "ScannedDigits$Digit" "glow" "[I", Cond.methodLink RX0 46 arraycopyName, Cond.fieldLink RX0 15 "ScannedDigits$Digit" "use" "[I", Cond.methodLink RX5 92 yX3_digitsInGroup, Cond.instanceMethod yX3_digitsInGroup, Cond.selects RX3 yX3_digitsInGroup yX3_digitsInGroup, Cond.code yX3_digitsInGroup cX3_digitsInGroup 4 (some .int), Cond.fieldLink RX3 95 "ScannedDigits$Digit" "group" "I"]
def wsX5_setBlink : List Cond := .code yX5_setBlink cX5_setBlink 4 (some .int) :: ((wsX5_setBlink_r1 ++ (wsX5_setBlink_r2 ++ wsX5_setBlink_r3)) ++ wsX50 ++ wsX30 ++ wsX10 ++ wsX00)
def wsX5_set_r1 : List Cond := [Cond.fieldLink RX5 96 "ScannedDigits" "LEAST_SETTINGS" "[I", Cond.fieldLink RX5 99 "ScannedDigits" "MOST_SETTINGS" "[I", Cond.fieldLink RX5 22 "ScannedDigits" "history" "LScannedDigits$History;", Cond.fieldLink RX5 10 "ScannedDigits" "now" "LScannedDigits$State;", Cond.fieldLink RX5 102 "ScannedDigits$State" "settings" "[I", Cond.methodLink RX5 40 yX5_isWithin, Cond.static yX5_isWithin, Cond.initialized RX5, Cond.code yX5_isWithin cX5_isWithin 3 (some .boolean), Cond.methodLink RX5 44 yX1_record, Cond.instanceMethod yX1_record, Cond.selects RX1 yX1_record yX1_record, Cond.initialized RX1, Cond.code yX1_record cX1_record 2 none, Cond.fieldLink RX1 11 "ScannedDigits$History" "rows" "[LScannedDigits$State;", Cond.fieldLink RX1 18 "ScannedDigits$History" "next" "I", Cond.fieldLink RX1 26 "ScannedDigits$History" "size" "I", Cond.methodLink RX1 29 Lib.Math.min.name, Cond.static Lib.Math.min.name, Cond.initialized "java/lang/Math", Cond.code Lib.Math.min.name Lib.Math.min.code 2 (some .int), Cond.methodLink RX1 22 yX3_copyFrom, Cond.instanceMethod yX3_copyFrom, Cond.selects RX3 yX3_copyFrom yX3_copyFrom]
def wsX5_set_r2 : List Cond := [Cond.initialized RX3, Cond.code yX3_copyFrom cX3_copyFrom 3 none, Cond.fieldLink RX3 11 "ScannedDigits$State" "digits" "[LScannedDigits$Digit;", Cond.fieldLink RX3 17 "ScannedDigits$State" "digitCount" "I", Cond.fieldLink RX3 21 "ScannedDigits$State" "on" "[I", Cond.methodLink RX3 44 arraycopyName, Cond.native arraycopyName, Cond.static arraycopyName, Cond.initialized "java/lang/System", Cond.fieldLink RX3 25 "ScannedDigits$State" "off" "[I", Cond.fieldLink RX3 36 "ScannedDigits$State" "settings" "[I", Cond.fieldLink RX3 50 "ScannedDigits$State" "time" "I", Cond.fieldLink RX3 53 "ScannedDigits$State" "frame" "I", Cond.fieldLink RX3 56 "ScannedDigits$State" "frameTicks" "I", Cond.fieldLink RX3 59 "ScannedDigits$State" "testFrames" "I", Cond.fieldLink RX3 62 "ScannedDigits$State" "drivenTicks" "I", Cond.fieldLink RX3 65 "ScannedDigits$State" "current" "F", Cond.fieldLink RX3 69 "ScannedDigits$State" "peak" "F", Cond.fieldLink RX3 72 "ScannedDigits$State" "charge" "F", Cond.methodLink RX3 40 yX0_copyFrom, Cond.instanceMethod yX0_copyFrom, Cond.selects RX0 yX0_copyFrom yX0_copyFrom, Cond.initialized RX0, Cond.code yX0_copyFrom cX0_copyFrom 2 none]
def wsX5_set_r3 : List Cond := [Cond.fieldLink RX0 21 "ScannedDigits$Digit" "width" "I", Cond.fieldLink RX0 25 "ScannedDigits$Digit" "guard" "I", Cond.fieldLink RX0 28 "ScannedDigits$Digit" "brightness" "I", Cond.fieldLink RX0 31 "ScannedDigits$Digit" "pattern" "I", Cond.fieldLink RX0 34 "ScannedDigits$Digit" "group" "I", Cond.fieldLink RX0 37 "ScannedDigits$Digit" "drivenTicks" "I", Cond.fieldLink RX0 43 "ScannedDigits$Digit" "broken" "I", Cond.fieldLink RX0 9 "ScannedDigits$Digit" "glow" "[I", Cond.methodLink RX0 46 arraycopyName, Cond.fieldLink RX0 15 "ScannedDigits$Digit" "use" "[I"]
def wsX5_set : List Cond := .code yX5_set cX5_set 4 (some .int) :: ((wsX5_set_r1 ++ (wsX5_set_r2 ++ wsX5_set_r3)) ++ wsX50 ++ wsX30 ++ wsX10 ++ wsX00)
def wsX5_replace_r1 : List Cond := [Cond.fieldLink RX5 10 "ScannedDigits" "now" "LScannedDigits$State;", Cond.fieldLink RX5 22 "ScannedDigits" "history" "LScannedDigits$History;", Cond.fieldLink RX5 105 "ScannedDigits$Digit" "broken" "I", Cond.methodLink RX5 56 yX3_find, Cond.instanceMethod yX3_find, Cond.selects RX3 yX3_find yX3_find, Cond.initialized RX3, Cond.code yX3_find cX3_find 2 (some (.object "ScannedDigits$Digit")), Cond.fieldLink RX3 17 "ScannedDigits$State" "digitCount" "I", Cond.fieldLink RX3 11 "ScannedDigits$State" "digits" "[LScannedDigits$Digit;", Cond.static yX5_isWithin, Cond.initialized RX5, Cond.code yX5_isWithin cX5_isWithin 3 (some .boolean), Cond.methodLink RX5 44 yX1_record, Cond.instanceMethod yX1_record, Cond.selects RX1 yX1_record yX1_record, Cond.initialized RX1, Cond.code yX1_record cX1_record 2 none, Cond.fieldLink RX1 11 "ScannedDigits$History" "rows" "[LScannedDigits$State;", Cond.fieldLink RX1 18 "ScannedDigits$History" "next" "I", Cond.fieldLink RX1 26 "ScannedDigits$History" "size" "I", Cond.methodLink RX1 29 Lib.Math.min.name, Cond.static Lib.Math.min.name, Cond.initialized "java/lang/Math"]
def wsX5_replace_r2 : List Cond := [Cond.code Lib.Math.min.name Lib.Math.min.code 2 (some .int), Cond.methodLink RX1 22 yX3_copyFrom, Cond.instanceMethod yX3_copyFrom, Cond.selects RX3 yX3_copyFrom yX3_copyFrom, Cond.code yX3_copyFrom cX3_copyFrom 3 none, Cond.fieldLink RX3 21 "ScannedDigits$State" "on" "[I", Cond.methodLink RX3 44 arraycopyName, Cond.native arraycopyName, Cond.static arraycopyName, Cond.initialized "java/lang/System", Cond.fieldLink RX3 25 "ScannedDigits$State" "off" "[I", Cond.fieldLink RX3 36 "ScannedDigits$State" "settings" "[I", Cond.fieldLink RX3 50 "ScannedDigits$State" "time" "I", Cond.fieldLink RX3 53 "ScannedDigits$State" "frame" "I", Cond.fieldLink RX3 56 "ScannedDigits$State" "frameTicks" "I", Cond.fieldLink RX3 59 "ScannedDigits$State" "testFrames" "I", Cond.fieldLink RX3 62 "ScannedDigits$State" "drivenTicks" "I", Cond.fieldLink RX3 65 "ScannedDigits$State" "current" "F", Cond.fieldLink RX3 69 "ScannedDigits$State" "peak" "F", Cond.fieldLink RX3 72 "ScannedDigits$State" "charge" "F", Cond.methodLink RX3 40 yX0_copyFrom, Cond.instanceMethod yX0_copyFrom, Cond.selects RX0 yX0_copyFrom yX0_copyFrom, Cond.initialized RX0]
def wsX5_replace_r3 : List Cond := [Cond.code yX0_copyFrom cX0_copyFrom 2 none, Cond.fieldLink RX0 21 "ScannedDigits$Digit" "width" "I", Cond.fieldLink RX0 25 "ScannedDigits$Digit" "guard" "I", Cond.fieldLink RX0 28 "ScannedDigits$Digit" "brightness" "I", Cond.fieldLink RX0 31 "ScannedDigits$Digit" "pattern" "I", Cond.fieldLink RX0 34 "ScannedDigits$Digit" "group" "I", Cond.fieldLink RX0 37 "ScannedDigits$Digit" "drivenTicks" "I", Cond.fieldLink RX0 43 "ScannedDigits$Digit" "broken" "I", Cond.fieldLink RX0 9 "ScannedDigits$Digit" "glow" "[I", Cond.methodLink RX0 46 arraycopyName, Cond.fieldLink RX0 15 "ScannedDigits$Digit" "use" "[I", Cond.methodLink RX5 108 yJ6_bitCount_0f7a4, Cond.static yJ6_bitCount_0f7a4, Cond.initialized RJ6, Cond.code yJ6_bitCount_0f7a4 cJ6_bitCount_0f7a4 1 (some .int), Cond.constant RJ6 265 (1431655765), Cond.constant RJ6 266 (858993459), Cond.constant RJ6 267 (252645135), Cond.methodLink RX5 113 yX0_renewSegments, Cond.instanceMethod yX0_renewSegments, Cond.selects RX0 yX0_renewSegments yX0_renewSegments, Cond.code yX0_renewSegments cX0_renewSegments 2 none]
def wsX5_replace : List Cond := .code yX5_replace cX5_replace 4 (some .int) :: ((wsX5_replace_r1 ++ (wsX5_replace_r2 ++ wsX5_replace_r3)) ++ wsX50 ++ wsX00 ++ wsX30 ++ wsX10)
def wsX5_test_r1 : List Cond := [Cond.fieldLink RX5 22 "ScannedDigits" "history" "LScannedDigits$History;", Cond.fieldLink RX5 10 "ScannedDigits" "now" "LScannedDigits$State;", Cond.fieldLink RX5 116 "ScannedDigits$State" "testFrames" "I", Cond.methodLink RX5 40 yX5_isWithin, Cond.static yX5_isWithin, Cond.initialized RX5, Cond.code yX5_isWithin cX5_isWithin 3 (some .boolean), Cond.methodLink RX5 44 yX1_record, Cond.instanceMethod yX1_record, Cond.selects RX1 yX1_record yX1_record, Cond.initialized RX1, Cond.code yX1_record cX1_record 2 none, Cond.fieldLink RX1 11 "ScannedDigits$History" "rows" "[LScannedDigits$State;", Cond.fieldLink RX1 18 "ScannedDigits$History" "next" "I", Cond.fieldLink RX1 26 "ScannedDigits$History" "size" "I", Cond.methodLink RX1 29 Lib.Math.min.name, Cond.static Lib.Math.min.name, Cond.initialized "java/lang/Math", Cond.code Lib.Math.min.name Lib.Math.min.code 2 (some .int), Cond.methodLink RX1 22 yX3_copyFrom, Cond.instanceMethod yX3_copyFrom, Cond.selects RX3 yX3_copyFrom yX3_copyFrom, Cond.initialized RX3, Cond.code yX3_copyFrom cX3_copyFrom 3 none]
def wsX5_test_r2 : List Cond := [Cond.fieldLink RX3 11 "ScannedDigits$State" "digits" "[LScannedDigits$Digit;", Cond.fieldLink RX3 17 "ScannedDigits$State" "digitCount" "I", Cond.fieldLink RX3 21 "ScannedDigits$State" "on" "[I", Cond.methodLink RX3 44 arraycopyName, Cond.native arraycopyName, Cond.static arraycopyName, Cond.initialized "java/lang/System", Cond.fieldLink RX3 25 "ScannedDigits$State" "off" "[I", Cond.fieldLink RX3 36 "ScannedDigits$State" "settings" "[I", Cond.fieldLink RX3 50 "ScannedDigits$State" "time" "I", Cond.fieldLink RX3 53 "ScannedDigits$State" "frame" "I", Cond.fieldLink RX3 56 "ScannedDigits$State" "frameTicks" "I", Cond.fieldLink RX3 59 "ScannedDigits$State" "testFrames" "I", Cond.fieldLink RX3 62 "ScannedDigits$State" "drivenTicks" "I", Cond.fieldLink RX3 65 "ScannedDigits$State" "current" "F", Cond.fieldLink RX3 69 "ScannedDigits$State" "peak" "F", Cond.fieldLink RX3 72 "ScannedDigits$State" "charge" "F", Cond.methodLink RX3 40 yX0_copyFrom, Cond.instanceMethod yX0_copyFrom, Cond.selects RX0 yX0_copyFrom yX0_copyFrom, Cond.initialized RX0, Cond.code yX0_copyFrom cX0_copyFrom 2 none, Cond.fieldLink RX0 21 "ScannedDigits$Digit" "width" "I", Cond.fieldLink RX0 25 "ScannedDigits$Digit" "guard" "I"]
def wsX5_test_r3 : List Cond := [Cond.fieldLink RX0 28 "ScannedDigits$Digit" "brightness" "I", Cond.fieldLink RX0 31 "ScannedDigits$Digit" "pattern" "I", Cond.fieldLink RX0 34 "ScannedDigits$Digit" "group" "I", Cond.fieldLink RX0 37 "ScannedDigits$Digit" "drivenTicks" "I", Cond.fieldLink RX0 43 "ScannedDigits$Digit" "broken" "I", Cond.fieldLink RX0 9 "ScannedDigits$Digit" "glow" "[I", Cond.methodLink RX0 46 arraycopyName, Cond.fieldLink RX0 15 "ScannedDigits$Digit" "use" "[I"]
def wsX5_test : List Cond := .code yX5_test cX5_test 3 (some .int) :: ((wsX5_test_r1 ++ (wsX5_test_r2 ++ wsX5_test_r3)) ++ wsX50 ++ wsX30 ++ wsX10 ++ wsX00)
def wsX5_pass_r1 : List Cond := [Cond.fieldLink RX5 22 "ScannedDigits" "history" "LScannedDigits$History;", Cond.fieldLink RX5 10 "ScannedDigits" "now" "LScannedDigits$State;", Cond.methodLink RX5 40 yX5_isWithin, Cond.static yX5_isWithin, Cond.initialized RX5, Cond.code yX5_isWithin cX5_isWithin 3 (some .boolean), Cond.methodLink RX5 44 yX1_record, Cond.instanceMethod yX1_record, Cond.selects RX1 yX1_record yX1_record, Cond.initialized RX1, Cond.code yX1_record cX1_record 2 none, Cond.fieldLink RX1 11 "ScannedDigits$History" "rows" "[LScannedDigits$State;", Cond.fieldLink RX1 18 "ScannedDigits$History" "next" "I", Cond.fieldLink RX1 26 "ScannedDigits$History" "size" "I", Cond.methodLink RX1 29 Lib.Math.min.name, Cond.static Lib.Math.min.name, Cond.initialized "java/lang/Math", Cond.code Lib.Math.min.name Lib.Math.min.code 2 (some .int), Cond.methodLink RX1 22 yX3_copyFrom, Cond.instanceMethod yX3_copyFrom, Cond.selects RX3 yX3_copyFrom yX3_copyFrom, Cond.initialized RX3, Cond.code yX3_copyFrom cX3_copyFrom 3 none, Cond.fieldLink RX3 11 "ScannedDigits$State" "digits" "[LScannedDigits$Digit;"]
def wsX5_pass_r2 : List Cond := [Cond.fieldLink RX3 17 "ScannedDigits$State" "digitCount" "I", Cond.fieldLink RX3 21 "ScannedDigits$State" "on" "[I", Cond.methodLink RX3 44 arraycopyName, Cond.native arraycopyName, Cond.static arraycopyName, Cond.initialized "java/lang/System", Cond.fieldLink RX3 25 "ScannedDigits$State" "off" "[I", Cond.fieldLink RX3 36 "ScannedDigits$State" "settings" "[I", Cond.fieldLink RX3 50 "ScannedDigits$State" "time" "I", Cond.fieldLink RX3 53 "ScannedDigits$State" "frame" "I", Cond.fieldLink RX3 56 "ScannedDigits$State" "frameTicks" "I", Cond.fieldLink RX3 59 "ScannedDigits$State" "testFrames" "I", Cond.fieldLink RX3 62 "ScannedDigits$State" "drivenTicks" "I", Cond.fieldLink RX3 65 "ScannedDigits$State" "current" "F", Cond.fieldLink RX3 69 "ScannedDigits$State" "peak" "F", Cond.fieldLink RX3 72 "ScannedDigits$State" "charge" "F", Cond.methodLink RX3 40 yX0_copyFrom, Cond.instanceMethod yX0_copyFrom, Cond.selects RX0 yX0_copyFrom yX0_copyFrom, Cond.initialized RX0, Cond.code yX0_copyFrom cX0_copyFrom 2 none, Cond.fieldLink RX0 21 "ScannedDigits$Digit" "width" "I", Cond.fieldLink RX0 25 "ScannedDigits$Digit" "guard" "I", Cond.fieldLink RX0 28 "ScannedDigits$Digit" "brightness" "I"]
def wsX5_pass_r3 : List Cond := [Cond.fieldLink RX0 31 "ScannedDigits$Digit" "pattern" "I", Cond.fieldLink RX0 34 "ScannedDigits$Digit" "group" "I", Cond.fieldLink RX0 37 "ScannedDigits$Digit" "drivenTicks" "I", Cond.fieldLink RX0 43 "ScannedDigits$Digit" "broken" "I", Cond.fieldLink RX0 9 "ScannedDigits$Digit" "glow" "[I", Cond.methodLink RX0 46 arraycopyName, Cond.fieldLink RX0 15 "ScannedDigits$Digit" "use" "[I", Cond.methodLink RX5 119 yX3_runTicks, Cond.instanceMethod yX3_runTicks, Cond.selects RX3 yX3_runTicks yX3_runTicks, Cond.code yX3_runTicks cX3_runTicks 4 (some .int), Cond.methodLink RX3 123 yX3_runTick, Cond.instanceMethod yX3_runTick, Cond.selects RX3 yX3_runTick yX3_runTick, Cond.code yX3_runTick cX3_runTick 4 (some .int), Cond.fieldLink RX3 129 "ScannedDigits$Digit" "drivenTicks" "I", Cond.methodLink RX3 116 yX3_slotNow, Cond.instanceMethod yX3_slotNow, Cond.selects RX3 yX3_slotNow yX3_slotNow, Cond.code yX3_slotNow cX3_slotNow 3 (some .int), Cond.fieldLink RX3 85 "ScannedDigits$Digit" "width" "I", Cond.methodLink RX3 126 yX3_litNext, Cond.instanceMethod yX3_litNext, Cond.selects RX3 yX3_litNext yX3_litNext]
def wsX5_pass_r4 : List Cond := [Cond.code yX3_litNext cX3_litNext 3 (some .int), Cond.fieldLink RX3 88 "ScannedDigits$Digit" "pattern" "I", Cond.fieldLink RX3 98 "ScannedDigits$Digit" "broken" "I", Cond.methodLink RX3 120 yX3_isDriven, Cond.instanceMethod yX3_isDriven, Cond.selects RX3 yX3_isDriven yX3_isDriven, Cond.code yX3_isDriven cX3_isDriven 5 (some .boolean), Cond.fieldLink RX3 106 "ScannedDigits$Digit" "brightness" "I", Cond.fieldLink RX3 95 "ScannedDigits$Digit" "group" "I", Cond.methodLink RX3 109 yX0_litPartAt, Cond.instanceMethod yX0_litPartAt, Cond.selects RX0 yX0_litPartAt yX0_litPartAt, Cond.code yX0_litPartAt cX0_litPartAt 2 (some .int), Cond.methodLink RX3 91 yX3_slotStart, Cond.instanceMethod yX3_slotStart, Cond.selects RX3 yX3_slotStart yX3_slotStart, Cond.code yX3_slotStart cX3_slotStart 4 (some .int), Cond.methodLink RX3 112 yX3_isGroupOn, Cond.instanceMethod yX3_isGroupOn, Cond.selects RX3 yX3_isGroupOn yX3_isGroupOn, Cond.code yX3_isGroupOn cX3_isGroupOn 3 (some .boolean), Cond.methodLink RX3 130 yX0_runTick, Cond.instanceMethod yX0_runTick, Cond.selects RX0 yX0_runTick yX0_runTick]
def wsX5_pass_r5 : List Cond := [Cond.code yX0_runTick cX0_runTick 5 none, Cond.static yX5_glowUnlit, Cond.code yX5_glowUnlit cX5_glowUnlit 3 (some .int), Cond.methodLink RX5 234 Lib.Math.max.name, Cond.static Lib.Math.max.name, Cond.code Lib.Math.max.name Lib.Math.max.code 2 (some .int), Cond.static yX5_glowLit, Cond.code yX5_glowLit cX5_glowLit 2 (some .int), Cond.methodLink RX5 240 Lib.Math.min.name, Cond.methodLink RX3 101 yJ6_bitCount_0f7a4, Cond.static yJ6_bitCount_0f7a4, Cond.initialized RJ6, Cond.code yJ6_bitCount_0f7a4 cJ6_bitCount_0f7a4 1 (some .int), Cond.constant RJ6 265 (1431655765), Cond.constant RJ6 266 (858993459), Cond.constant RJ6 267 (252645135), Cond.methodLink RX3 133 yX3_runCurrent, Cond.instanceMethod yX3_runCurrent, Cond.selects RX3 yX3_runCurrent yX3_runCurrent, Cond.code yX3_runCurrent cX3_runCurrent 2 none, Cond.constantFloat RX3 140 (1075838976), Cond.constantFloat RX3 141 (1040187392), Cond.constantFloat RX3 142 (981668463), Cond.methodLink RX3 137 yX3_frameLength]
def wsX5_pass_r6 : List Cond := [Cond.instanceMethod yX3_frameLength, Cond.selects RX3 yX3_frameLength yX3_frameLength, Cond.code yX3_frameLength cX3_frameLength 1 (some .int), Cond.methodLink RX3 82 yX3_beginFrame, Cond.instanceMethod yX3_beginFrame, Cond.selects RX3 yX3_beginFrame yX3_beginFrame, Cond.code yX3_beginFrame cX3_beginFrame 1 none]
def wsX5_pass : List Cond := .code yX5_pass cX5_pass 2 (some .int) :: ((wsX5_pass_r1 ++ (wsX5_pass_r2 ++ (wsX5_pass_r3 ++ (wsX5_pass_r4 ++ (wsX5_pass_r5 ++ wsX5_pass_r6))))) ++ wsX50 ++ wsX10 ++ wsX30 ++ wsX00)
def wsX5_passFrames_r1 : List Cond := [Cond.fieldLink RX5 22 "ScannedDigits" "history" "LScannedDigits$History;", Cond.fieldLink RX5 10 "ScannedDigits" "now" "LScannedDigits$State;", Cond.fieldLink RX5 122 "ScannedDigits$State" "frameTicks" "I", Cond.fieldLink RX5 125 "ScannedDigits$State" "time" "I", Cond.methodLink RX5 40 yX5_isWithin, Cond.static yX5_isWithin, Cond.initialized RX5, Cond.code yX5_isWithin cX5_isWithin 3 (some .boolean), Cond.methodLink RX5 44 yX1_record, Cond.instanceMethod yX1_record, Cond.selects RX1 yX1_record yX1_record, Cond.initialized RX1, Cond.code yX1_record cX1_record 2 none, Cond.fieldLink RX1 11 "ScannedDigits$History" "rows" "[LScannedDigits$State;", Cond.fieldLink RX1 18 "ScannedDigits$History" "next" "I", Cond.fieldLink RX1 26 "ScannedDigits$History" "size" "I", Cond.methodLink RX1 29 Lib.Math.min.name, Cond.static Lib.Math.min.name, Cond.initialized "java/lang/Math", Cond.code Lib.Math.min.name Lib.Math.min.code 2 (some .int), Cond.methodLink RX1 22 yX3_copyFrom, Cond.instanceMethod yX3_copyFrom, Cond.selects RX3 yX3_copyFrom yX3_copyFrom, Cond.initialized RX3]
def wsX5_passFrames_r2 : List Cond := [Cond.code yX3_copyFrom cX3_copyFrom 3 none, Cond.fieldLink RX3 11 "ScannedDigits$State" "digits" "[LScannedDigits$Digit;", Cond.fieldLink RX3 17 "ScannedDigits$State" "digitCount" "I", Cond.fieldLink RX3 21 "ScannedDigits$State" "on" "[I", Cond.methodLink RX3 44 arraycopyName, Cond.native arraycopyName, Cond.static arraycopyName, Cond.initialized "java/lang/System", Cond.fieldLink RX3 25 "ScannedDigits$State" "off" "[I", Cond.fieldLink RX3 36 "ScannedDigits$State" "settings" "[I", Cond.fieldLink RX3 50 "ScannedDigits$State" "time" "I", Cond.fieldLink RX3 53 "ScannedDigits$State" "frame" "I", Cond.fieldLink RX3 56 "ScannedDigits$State" "frameTicks" "I", Cond.fieldLink RX3 59 "ScannedDigits$State" "testFrames" "I", Cond.fieldLink RX3 62 "ScannedDigits$State" "drivenTicks" "I", Cond.fieldLink RX3 65 "ScannedDigits$State" "current" "F", Cond.fieldLink RX3 69 "ScannedDigits$State" "peak" "F", Cond.fieldLink RX3 72 "ScannedDigits$State" "charge" "F", Cond.methodLink RX3 40 yX0_copyFrom, Cond.instanceMethod yX0_copyFrom, Cond.selects RX0 yX0_copyFrom yX0_copyFrom, Cond.initialized RX0, Cond.code yX0_copyFrom cX0_copyFrom 2 none, Cond.fieldLink RX0 21 "ScannedDigits$Digit" "width" "I"]
def wsX5_passFrames_r3 : List Cond := [Cond.fieldLink RX0 25 "ScannedDigits$Digit" "guard" "I", Cond.fieldLink RX0 28 "ScannedDigits$Digit" "brightness" "I", Cond.fieldLink RX0 31 "ScannedDigits$Digit" "pattern" "I", Cond.fieldLink RX0 34 "ScannedDigits$Digit" "group" "I", Cond.fieldLink RX0 37 "ScannedDigits$Digit" "drivenTicks" "I", Cond.fieldLink RX0 43 "ScannedDigits$Digit" "broken" "I", Cond.fieldLink RX0 9 "ScannedDigits$Digit" "glow" "[I", Cond.methodLink RX0 46 arraycopyName, Cond.fieldLink RX0 15 "ScannedDigits$Digit" "use" "[I", Cond.methodLink RX5 64 yX3_frameLength, Cond.instanceMethod yX3_frameLength, Cond.selects RX3 yX3_frameLength yX3_frameLength, Cond.code yX3_frameLength cX3_frameLength 1 (some .int), Cond.methodLink RX3 91 yX3_slotStart, Cond.instanceMethod yX3_slotStart, Cond.selects RX3 yX3_slotStart yX3_slotStart, Cond.code yX3_slotStart cX3_slotStart 4 (some .int), Cond.fieldLink RX3 85 "ScannedDigits$Digit" "width" "I", Cond.methodLink RX5 119 yX3_runTicks, Cond.instanceMethod yX3_runTicks, Cond.selects RX3 yX3_runTicks yX3_runTicks, Cond.code yX3_runTicks cX3_runTicks 4 (some .int), Cond.methodLink RX3 123 yX3_runTick, Cond.instanceMethod yX3_runTick]
def wsX5_passFrames_r4 : List Cond := [Cond.selects RX3 yX3_runTick yX3_runTick, Cond.code yX3_runTick cX3_runTick 4 (some .int), Cond.fieldLink RX3 129 "ScannedDigits$Digit" "drivenTicks" "I", Cond.methodLink RX3 116 yX3_slotNow, Cond.instanceMethod yX3_slotNow, Cond.selects RX3 yX3_slotNow yX3_slotNow, Cond.code yX3_slotNow cX3_slotNow 3 (some .int), Cond.methodLink RX3 126 yX3_litNext, Cond.instanceMethod yX3_litNext, Cond.selects RX3 yX3_litNext yX3_litNext, Cond.code yX3_litNext cX3_litNext 3 (some .int), Cond.fieldLink RX3 88 "ScannedDigits$Digit" "pattern" "I", Cond.fieldLink RX3 98 "ScannedDigits$Digit" "broken" "I", Cond.methodLink RX3 120 yX3_isDriven, Cond.instanceMethod yX3_isDriven, Cond.selects RX3 yX3_isDriven yX3_isDriven, Cond.code yX3_isDriven cX3_isDriven 5 (some .boolean), Cond.fieldLink RX3 106 "ScannedDigits$Digit" "brightness" "I", Cond.fieldLink RX3 95 "ScannedDigits$Digit" "group" "I", Cond.methodLink RX3 109 yX0_litPartAt, Cond.instanceMethod yX0_litPartAt, Cond.selects RX0 yX0_litPartAt yX0_litPartAt, Cond.code yX0_litPartAt cX0_litPartAt 2 (some .int), Cond.methodLink RX3 112 yX3_isGroupOn]
def wsX5_passFrames_r5 : List Cond := [Cond.instanceMethod yX3_isGroupOn, Cond.selects RX3 yX3_isGroupOn yX3_isGroupOn, Cond.code yX3_isGroupOn cX3_isGroupOn 3 (some .boolean), Cond.methodLink RX3 130 yX0_runTick, Cond.instanceMethod yX0_runTick, Cond.selects RX0 yX0_runTick yX0_runTick, Cond.code yX0_runTick cX0_runTick 5 none, Cond.static yX5_glowUnlit, Cond.code yX5_glowUnlit cX5_glowUnlit 3 (some .int), Cond.methodLink RX5 234 Lib.Math.max.name, Cond.static Lib.Math.max.name, Cond.code Lib.Math.max.name Lib.Math.max.code 2 (some .int), Cond.static yX5_glowLit, Cond.code yX5_glowLit cX5_glowLit 2 (some .int), Cond.methodLink RX5 240 Lib.Math.min.name, Cond.methodLink RX3 101 yJ6_bitCount_0f7a4, Cond.static yJ6_bitCount_0f7a4, Cond.initialized RJ6, Cond.code yJ6_bitCount_0f7a4 cJ6_bitCount_0f7a4 1 (some .int), Cond.constant RJ6 265 (1431655765), Cond.constant RJ6 266 (858993459), Cond.constant RJ6 267 (252645135), Cond.methodLink RX3 133 yX3_runCurrent, Cond.instanceMethod yX3_runCurrent]
def wsX5_passFrames_r6 : List Cond := [Cond.selects RX3 yX3_runCurrent yX3_runCurrent, Cond.code yX3_runCurrent cX3_runCurrent 2 none, Cond.constantFloat RX3 140 (1075838976), Cond.constantFloat RX3 141 (1040187392), Cond.constantFloat RX3 142 (981668463), Cond.methodLink RX3 137 yX3_frameLength, Cond.methodLink RX3 82 yX3_beginFrame, Cond.instanceMethod yX3_beginFrame, Cond.selects RX3 yX3_beginFrame yX3_beginFrame, Cond.code yX3_beginFrame cX3_beginFrame 1 none]
def wsX5_passFrames : List Cond := .code yX5_passFrames cX5_passFrames 3 (some .int) :: ((wsX5_passFrames_r1 ++ (wsX5_passFrames_r2 ++ (wsX5_passFrames_r3 ++ (wsX5_passFrames_r4 ++ (wsX5_passFrames_r5 ++ wsX5_passFrames_r6))))) ++ wsX50 ++ wsX30 ++ wsX10 ++ wsX00)
def wsX5_type : List Cond := .code yX5_type cX5_type 2 (some .int) :: ([.fieldLink RX5 35 "ScannedDigits" "text" "LScannedDigits$Text;", .fieldLink RX5 136 "ScannedDigits$Text" "length" "I", .methodLink RX5 128 yX4_isFull, .instanceMethod yX4_isFull, .selects RX4 yX4_isFull yX4_isFull, .initialized RX4, .code yX4_isFull cX4_isFull 1 (some .boolean), .fieldLink RX4 19 "ScannedDigits$Text" "length" "I", .methodLink RX5 132 yX4_append, .instanceMethod yX4_append, .selects RX4 yX4_append yX4_append, .code yX4_append cX4_append 2 none, .fieldLink RX4 9 "ScannedDigits$Text" "characters" "[C"] ++ wsX50 ++ wsX40)
def wsX5_clearText : List Cond := .code yX5_clearText cX5_clearText 2 (some .int) :: ([.fieldLink RX5 35 "ScannedDigits" "text" "LScannedDigits$Text;", .fieldLink RX5 136 "ScannedDigits$Text" "length" "I"] ++ wsX50 ++ wsX40)
def wsX5_show_r1 : List Cond := [Cond.fieldLink RX5 35 "ScannedDigits" "text" "LScannedDigits$Text;", Cond.fieldLink RX5 10 "ScannedDigits" "now" "LScannedDigits$State;", Cond.fieldLink RX5 48 "ScannedDigits$State" "digitCount" "I", Cond.fieldLink RX5 22 "ScannedDigits" "history" "LScannedDigits$History;", Cond.fieldLink RX5 142 "ScannedDigits$Text" "patterns" "[I", Cond.fieldLink RX5 149 "ScannedDigits$Text" "needed" "I", Cond.methodLink RX5 139 yX4_layOut, Cond.instanceMethod yX4_layOut, Cond.selects RX4 yX4_layOut yX4_layOut, Cond.initialized RX4, Cond.code yX4_layOut cX4_layOut 6 (some .int), Cond.fieldLink RX4 15 "ScannedDigits$Text" "patterns" "[I", Cond.fieldLink RX4 23 "ScannedDigits$Text" "needed" "I", Cond.fieldLink RX4 19 "ScannedDigits$Text" "length" "I", Cond.fieldLink RX4 9 "ScannedDigits$Text" "characters" "[C", Cond.static yX5_patternOf, Cond.initialized RX5, Cond.code yX5_patternOf cX5_patternOf 2 (some .int), Cond.fieldLink RX5 230 "ScannedDigits" "CHARACTERS" "[C", Cond.fieldLink RX5 227 "ScannedDigits" "PATTERNS" "[I", Cond.methodLink RX5 44 yX1_record, Cond.instanceMethod yX1_record, Cond.selects RX1 yX1_record yX1_record, Cond.initialized RX1]
def wsX5_show_r2 : List Cond := [Cond.code yX1_record cX1_record 2 none, Cond.fieldLink RX1 11 "ScannedDigits$History" "rows" "[LScannedDigits$State;", Cond.fieldLink RX1 18 "ScannedDigits$History" "next" "I", Cond.fieldLink RX1 26 "ScannedDigits$History" "size" "I", Cond.methodLink RX1 29 Lib.Math.min.name, Cond.static Lib.Math.min.name, Cond.initialized "java/lang/Math", Cond.code Lib.Math.min.name Lib.Math.min.code 2 (some .int), Cond.methodLink RX1 22 yX3_copyFrom, Cond.instanceMethod yX3_copyFrom, Cond.selects RX3 yX3_copyFrom yX3_copyFrom, Cond.initialized RX3, Cond.code yX3_copyFrom cX3_copyFrom 3 none, Cond.fieldLink RX3 11 "ScannedDigits$State" "digits" "[LScannedDigits$Digit;", Cond.fieldLink RX3 17 "ScannedDigits$State" "digitCount" "I", Cond.fieldLink RX3 21 "ScannedDigits$State" "on" "[I", Cond.methodLink RX3 44 arraycopyName, Cond.native arraycopyName, Cond.static arraycopyName, Cond.initialized "java/lang/System", Cond.fieldLink RX3 25 "ScannedDigits$State" "off" "[I", Cond.fieldLink RX3 36 "ScannedDigits$State" "settings" "[I", Cond.fieldLink RX3 50 "ScannedDigits$State" "time" "I", Cond.fieldLink RX3 53 "ScannedDigits$State" "frame" "I"]
def wsX5_show_r3 : List Cond := [Cond.fieldLink RX3 56 "ScannedDigits$State" "frameTicks" "I", Cond.fieldLink RX3 59 "ScannedDigits$State" "testFrames" "I", Cond.fieldLink RX3 62 "ScannedDigits$State" "drivenTicks" "I", Cond.fieldLink RX3 65 "ScannedDigits$State" "current" "F", Cond.fieldLink RX3 69 "ScannedDigits$State" "peak" "F", Cond.fieldLink RX3 72 "ScannedDigits$State" "charge" "F", Cond.methodLink RX3 40 yX0_copyFrom, Cond.instanceMethod yX0_copyFrom, Cond.selects RX0 yX0_copyFrom yX0_copyFrom, Cond.initialized RX0, Cond.code yX0_copyFrom cX0_copyFrom 2 none, Cond.fieldLink RX0 21 "ScannedDigits$Digit" "width" "I", Cond.fieldLink RX0 25 "ScannedDigits$Digit" "guard" "I", Cond.fieldLink RX0 28 "ScannedDigits$Digit" "brightness" "I", Cond.fieldLink RX0 31 "ScannedDigits$Digit" "pattern" "I", Cond.fieldLink RX0 34 "ScannedDigits$Digit" "group" "I", Cond.fieldLink RX0 37 "ScannedDigits$Digit" "drivenTicks" "I", Cond.fieldLink RX0 43 "ScannedDigits$Digit" "broken" "I", Cond.fieldLink RX0 9 "ScannedDigits$Digit" "glow" "[I", Cond.methodLink RX0 46 arraycopyName, Cond.fieldLink RX0 15 "ScannedDigits$Digit" "use" "[I", Cond.methodLink RX5 145 yX3_takePatterns, Cond.instanceMethod yX3_takePatterns, Cond.selects RX3 yX3_takePatterns yX3_takePatterns]
def wsX5_show_r4 : List Cond := [Cond.code yX3_takePatterns cX3_takePatterns 3 none, Cond.fieldLink RX3 88 "ScannedDigits$Digit" "pattern" "I"]
def wsX5_show : List Cond := .code yX5_show cX5_show 2 (some .int) :: ((wsX5_show_r1 ++ (wsX5_show_r2 ++ (wsX5_show_r3 ++ wsX5_show_r4))) ++ wsX50 ++ wsX30 ++ wsX40 ++ wsX10 ++ wsX00)
def wsX5_undo_r1 : List Cond := [Cond.fieldLink RX5 22 "ScannedDigits" "history" "LScannedDigits$History;", Cond.fieldLink RX5 152 "ScannedDigits$History" "size" "I", Cond.fieldLink RX5 10 "ScannedDigits" "now" "LScannedDigits$State;", Cond.methodLink RX5 155 yX1_takeBack, Cond.instanceMethod yX1_takeBack, Cond.selects RX1 yX1_takeBack yX1_takeBack, Cond.initialized RX1, Cond.code yX1_takeBack cX1_takeBack 2 none, Cond.fieldLink RX1 18 "ScannedDigits$History" "next" "I", Cond.fieldLink RX1 11 "ScannedDigits$History" "rows" "[LScannedDigits$State;", Cond.fieldLink RX1 26 "ScannedDigits$History" "size" "I", Cond.methodLink RX1 22 yX3_copyFrom, Cond.instanceMethod yX3_copyFrom, Cond.selects RX3 yX3_copyFrom yX3_copyFrom, Cond.initialized RX3, Cond.code yX3_copyFrom cX3_copyFrom 3 none, Cond.fieldLink RX3 11 "ScannedDigits$State" "digits" "[LScannedDigits$Digit;", Cond.fieldLink RX3 17 "ScannedDigits$State" "digitCount" "I", Cond.fieldLink RX3 21 "ScannedDigits$State" "on" "[I", Cond.methodLink RX3 44 arraycopyName, Cond.native arraycopyName, Cond.static arraycopyName, Cond.initialized "java/lang/System", Cond.fieldLink RX3 25 "ScannedDigits$State" "off" "[I"]
def wsX5_undo_r2 : List Cond := [Cond.fieldLink RX3 36 "ScannedDigits$State" "settings" "[I", Cond.fieldLink RX3 50 "ScannedDigits$State" "time" "I", Cond.fieldLink RX3 53 "ScannedDigits$State" "frame" "I", Cond.fieldLink RX3 56 "ScannedDigits$State" "frameTicks" "I", Cond.fieldLink RX3 59 "ScannedDigits$State" "testFrames" "I", Cond.fieldLink RX3 62 "ScannedDigits$State" "drivenTicks" "I", Cond.fieldLink RX3 65 "ScannedDigits$State" "current" "F", Cond.fieldLink RX3 69 "ScannedDigits$State" "peak" "F", Cond.fieldLink RX3 72 "ScannedDigits$State" "charge" "F", Cond.methodLink RX3 40 yX0_copyFrom, Cond.instanceMethod yX0_copyFrom, Cond.selects RX0 yX0_copyFrom yX0_copyFrom, Cond.initialized RX0, Cond.code yX0_copyFrom cX0_copyFrom 2 none, Cond.fieldLink RX0 21 "ScannedDigits$Digit" "width" "I", Cond.fieldLink RX0 25 "ScannedDigits$Digit" "guard" "I", Cond.fieldLink RX0 28 "ScannedDigits$Digit" "brightness" "I", Cond.fieldLink RX0 31 "ScannedDigits$Digit" "pattern" "I", Cond.fieldLink RX0 34 "ScannedDigits$Digit" "group" "I", Cond.fieldLink RX0 37 "ScannedDigits$Digit" "drivenTicks" "I", Cond.fieldLink RX0 43 "ScannedDigits$Digit" "broken" "I", Cond.fieldLink RX0 9 "ScannedDigits$Digit" "glow" "[I", Cond.methodLink RX0 46 arraycopyName, Cond.fieldLink RX0 15 "ScannedDigits$Digit" "use" "[I"]
def wsX5_undo : List Cond := .code yX5_undo cX5_undo 1 (some .int) :: ((wsX5_undo_r1 ++ wsX5_undo_r2) ++ wsX50 ++ wsX10 ++ wsX30 ++ wsX00)
def wsX5_keep_r1 : List Cond := [Cond.fieldLink RX5 28 "ScannedDigits" "snapshots" "[LScannedDigits$Snapshot;", Cond.fieldLink RX5 158 "ScannedDigits$Snapshot" "state" "LScannedDigits$State;", Cond.fieldLink RX5 10 "ScannedDigits" "now" "LScannedDigits$State;", Cond.fieldLink RX5 164 "ScannedDigits$Snapshot" "isTaken" "Z", Cond.fieldLink RX5 125 "ScannedDigits$State" "time" "I", Cond.methodLink RX5 40 yX5_isWithin, Cond.static yX5_isWithin, Cond.initialized RX5, Cond.code yX5_isWithin cX5_isWithin 3 (some .boolean), Cond.methodLink RX5 161 yX3_copyFrom, Cond.instanceMethod yX3_copyFrom, Cond.selects RX3 yX3_copyFrom yX3_copyFrom, Cond.initialized RX3, Cond.code yX3_copyFrom cX3_copyFrom 3 none, Cond.fieldLink RX3 11 "ScannedDigits$State" "digits" "[LScannedDigits$Digit;", Cond.fieldLink RX3 17 "ScannedDigits$State" "digitCount" "I", Cond.fieldLink RX3 21 "ScannedDigits$State" "on" "[I", Cond.methodLink RX3 44 arraycopyName, Cond.native arraycopyName, Cond.static arraycopyName, Cond.initialized "java/lang/System", Cond.fieldLink RX3 25 "ScannedDigits$State" "off" "[I", Cond.fieldLink RX3 36 "ScannedDigits$State" "settings" "[I", Cond.fieldLink RX3 50 "ScannedDigits$State" "time" "I"]
def wsX5_keep_r2 : List Cond := [Cond.fieldLink RX3 53 "ScannedDigits$State" "frame" "I", Cond.fieldLink RX3 56 "ScannedDigits$State" "frameTicks" "I", Cond.fieldLink RX3 59 "ScannedDigits$State" "testFrames" "I", Cond.fieldLink RX3 62 "ScannedDigits$State" "drivenTicks" "I", Cond.fieldLink RX3 65 "ScannedDigits$State" "current" "F", Cond.fieldLink RX3 69 "ScannedDigits$State" "peak" "F", Cond.fieldLink RX3 72 "ScannedDigits$State" "charge" "F", Cond.methodLink RX3 40 yX0_copyFrom, Cond.instanceMethod yX0_copyFrom, Cond.selects RX0 yX0_copyFrom yX0_copyFrom, Cond.initialized RX0, Cond.code yX0_copyFrom cX0_copyFrom 2 none, Cond.fieldLink RX0 21 "ScannedDigits$Digit" "width" "I", Cond.fieldLink RX0 25 "ScannedDigits$Digit" "guard" "I", Cond.fieldLink RX0 28 "ScannedDigits$Digit" "brightness" "I", Cond.fieldLink RX0 31 "ScannedDigits$Digit" "pattern" "I", Cond.fieldLink RX0 34 "ScannedDigits$Digit" "group" "I", Cond.fieldLink RX0 37 "ScannedDigits$Digit" "drivenTicks" "I", Cond.fieldLink RX0 43 "ScannedDigits$Digit" "broken" "I", Cond.fieldLink RX0 9 "ScannedDigits$Digit" "glow" "[I", Cond.methodLink RX0 46 arraycopyName, Cond.fieldLink RX0 15 "ScannedDigits$Digit" "use" "[I"]
def wsX5_keep : List Cond := .code yX5_keep cX5_keep 2 (some .int) :: ((wsX5_keep_r1 ++ wsX5_keep_r2) ++ wsX50 ++ wsX20 ++ wsX30 ++ wsX00)
def wsX5_restore_r1 : List Cond := [Cond.fieldLink RX5 28 "ScannedDigits" "snapshots" "[LScannedDigits$Snapshot;", Cond.fieldLink RX5 164 "ScannedDigits$Snapshot" "isTaken" "Z", Cond.fieldLink RX5 22 "ScannedDigits" "history" "LScannedDigits$History;", Cond.fieldLink RX5 10 "ScannedDigits" "now" "LScannedDigits$State;", Cond.fieldLink RX5 158 "ScannedDigits$Snapshot" "state" "LScannedDigits$State;", Cond.fieldLink RX5 125 "ScannedDigits$State" "time" "I", Cond.methodLink RX5 40 yX5_isWithin, Cond.static yX5_isWithin, Cond.initialized RX5, Cond.code yX5_isWithin cX5_isWithin 3 (some .boolean), Cond.methodLink RX5 44 yX1_record, Cond.instanceMethod yX1_record, Cond.selects RX1 yX1_record yX1_record, Cond.initialized RX1, Cond.code yX1_record cX1_record 2 none, Cond.fieldLink RX1 11 "ScannedDigits$History" "rows" "[LScannedDigits$State;", Cond.fieldLink RX1 18 "ScannedDigits$History" "next" "I", Cond.fieldLink RX1 26 "ScannedDigits$History" "size" "I", Cond.methodLink RX1 29 Lib.Math.min.name, Cond.static Lib.Math.min.name, Cond.initialized "java/lang/Math", Cond.code Lib.Math.min.name Lib.Math.min.code 2 (some .int), Cond.methodLink RX1 22 yX3_copyFrom, Cond.instanceMethod yX3_copyFrom]
def wsX5_restore_r2 : List Cond := [Cond.selects RX3 yX3_copyFrom yX3_copyFrom, Cond.initialized RX3, Cond.code yX3_copyFrom cX3_copyFrom 3 none, Cond.fieldLink RX3 11 "ScannedDigits$State" "digits" "[LScannedDigits$Digit;", Cond.fieldLink RX3 17 "ScannedDigits$State" "digitCount" "I", Cond.fieldLink RX3 21 "ScannedDigits$State" "on" "[I", Cond.methodLink RX3 44 arraycopyName, Cond.native arraycopyName, Cond.static arraycopyName, Cond.initialized "java/lang/System", Cond.fieldLink RX3 25 "ScannedDigits$State" "off" "[I", Cond.fieldLink RX3 36 "ScannedDigits$State" "settings" "[I", Cond.fieldLink RX3 50 "ScannedDigits$State" "time" "I", Cond.fieldLink RX3 53 "ScannedDigits$State" "frame" "I", Cond.fieldLink RX3 56 "ScannedDigits$State" "frameTicks" "I", Cond.fieldLink RX3 59 "ScannedDigits$State" "testFrames" "I", Cond.fieldLink RX3 62 "ScannedDigits$State" "drivenTicks" "I", Cond.fieldLink RX3 65 "ScannedDigits$State" "current" "F", Cond.fieldLink RX3 69 "ScannedDigits$State" "peak" "F", Cond.fieldLink RX3 72 "ScannedDigits$State" "charge" "F", Cond.methodLink RX3 40 yX0_copyFrom, Cond.instanceMethod yX0_copyFrom, Cond.selects RX0 yX0_copyFrom yX0_copyFrom, Cond.initialized RX0]
def wsX5_restore_r3 : List Cond := [Cond.code yX0_copyFrom cX0_copyFrom 2 none, Cond.fieldLink RX0 21 "ScannedDigits$Digit" "width" "I", Cond.fieldLink RX0 25 "ScannedDigits$Digit" "guard" "I", Cond.fieldLink RX0 28 "ScannedDigits$Digit" "brightness" "I", Cond.fieldLink RX0 31 "ScannedDigits$Digit" "pattern" "I", Cond.fieldLink RX0 34 "ScannedDigits$Digit" "group" "I", Cond.fieldLink RX0 37 "ScannedDigits$Digit" "drivenTicks" "I", Cond.fieldLink RX0 43 "ScannedDigits$Digit" "broken" "I", Cond.fieldLink RX0 9 "ScannedDigits$Digit" "glow" "[I", Cond.methodLink RX0 46 arraycopyName, Cond.fieldLink RX0 15 "ScannedDigits$Digit" "use" "[I", Cond.methodLink RX5 161 yX3_copyFrom]
def wsX5_restore : List Cond := .code yX5_restore cX5_restore 2 (some .int) :: ((wsX5_restore_r1 ++ (wsX5_restore_r2 ++ wsX5_restore_r3)) ++ wsX50 ++ wsX20 ++ wsX30 ++ wsX10 ++ wsX00)
def wsX5_characterOf : List Cond := .code yX5_characterOf cX5_characterOf 2 (some .int) :: ([.fieldLink RX5 227 "ScannedDigits" "PATTERNS" "[I", .fieldLink RX5 230 "ScannedDigits" "CHARACTERS" "[C"])
def wsX5_digit_r1 : List Cond := [Cond.fieldLink RX5 10 "ScannedDigits" "now" "LScannedDigits$State;", Cond.fieldLink RX5 79 "ScannedDigits$Digit" "pattern" "I", Cond.fieldLink RX5 168 "ScannedDigits$Digit" "width" "I", Cond.fieldLink RX5 68 "ScannedDigits$Digit" "guard" "I", Cond.fieldLink RX5 76 "ScannedDigits$Digit" "brightness" "I", Cond.fieldLink RX5 82 "ScannedDigits$Digit" "group" "I", Cond.fieldLink RX5 102 "ScannedDigits$State" "settings" "[I", Cond.fieldLink RX5 105 "ScannedDigits$Digit" "broken" "I", Cond.fieldLink RX5 183 "ScannedDigits$Digit" "drivenTicks" "I", Cond.methodLink RX5 56 yX3_find, Cond.instanceMethod yX3_find, Cond.selects RX3 yX3_find yX3_find, Cond.initialized RX3, Cond.code yX3_find cX3_find 2 (some (.object "ScannedDigits$Digit")), Cond.fieldLink RX3 17 "ScannedDigits$State" "digitCount" "I", Cond.fieldLink RX3 11 "ScannedDigits$State" "digits" "[LScannedDigits$Digit;", Cond.static yX5_isWithin, Cond.initialized RX5, Cond.code yX5_isWithin cX5_isWithin 3 (some .boolean), Cond.methodLink RX5 73 yX0_litPart, Cond.instanceMethod yX0_litPart, Cond.selects RX0 yX0_litPart yX0_litPart, Cond.initialized RX0, Cond.code yX0_litPart cX0_litPart 1 (some .int)]
def wsX5_digit_r2 : List Cond := [Cond.fieldLink RX0 28 "ScannedDigits$Digit" "brightness" "I", Cond.methodLink RX0 52 yX0_litPartAt, Cond.instanceMethod yX0_litPartAt, Cond.selects RX0 yX0_litPartAt yX0_litPartAt, Cond.code yX0_litPartAt cX0_litPartAt 2 (some .int), Cond.fieldLink RX0 21 "ScannedDigits$Digit" "width" "I", Cond.fieldLink RX0 25 "ScannedDigits$Digit" "guard" "I", Cond.methodLink RX5 171 yX3_slotStart, Cond.instanceMethod yX3_slotStart, Cond.selects RX3 yX3_slotStart yX3_slotStart, Cond.code yX3_slotStart cX3_slotStart 4 (some .int), Cond.fieldLink RX3 85 "ScannedDigits$Digit" "width" "I", Cond.methodLink RX5 174 yX0_seen, Cond.instanceMethod yX0_seen, Cond.selects RX0 yX0_seen yX0_seen, Cond.code yX0_seen cX0_seen 4 (some .int), Cond.fieldLink RX0 9 "ScannedDigits$Digit" "glow" "[I", Cond.methodLink RX5 177 yX0_glowSum, Cond.instanceMethod yX0_glowSum, Cond.selects RX0 yX0_glowSum yX0_glowSum, Cond.code yX0_glowSum cX0_glowSum 3 (some .int), Cond.methodLink RX5 180 yX5_characterOf, Cond.static yX5_characterOf, Cond.code yX5_characterOf cX5_characterOf 2 (some .int)]
def wsX5_digit_r3 : List Cond := [Cond.fieldLink RX5 227 "ScannedDigits" "PATTERNS" "[I", Cond.fieldLink RX5 230 "ScannedDigits" "CHARACTERS" "[C"]
def wsX5_digit : List Cond := .code yX5_digit cX5_digit 4 (some .int) :: ((wsX5_digit_r1 ++ (wsX5_digit_r2 ++ wsX5_digit_r3)) ++ wsX50 ++ wsX00 ++ wsX30)
def wsX5_segment : List Cond := .code yX5_segment cX5_segment 5 (some .int) :: ([.fieldLink RX5 10 "ScannedDigits" "now" "LScannedDigits$State;", .fieldLink RX5 186 "ScannedDigits$Digit" "glow" "[I", .fieldLink RX5 189 "ScannedDigits$Digit" "use" "[I", .fieldLink RX5 105 "ScannedDigits$Digit" "broken" "I", .fieldLink RX5 102 "ScannedDigits$State" "settings" "[I", .methodLink RX5 56 yX3_find, .instanceMethod yX3_find, .selects RX3 yX3_find yX3_find, .initialized RX3, .code yX3_find cX3_find 2 (some (.object "ScannedDigits$Digit")), .fieldLink RX3 17 "ScannedDigits$State" "digitCount" "I", .fieldLink RX3 11 "ScannedDigits$State" "digits" "[LScannedDigits$Digit;", .static yX5_isWithin, .initialized RX5, .code yX5_isWithin cX5_isWithin 3 (some .boolean), .methodLink RX5 40 yX5_isWithin, .methodLink RX5 174 yX0_seen, .instanceMethod yX0_seen, .selects RX0 yX0_seen yX0_seen, .initialized RX0, .code yX0_seen cX0_seen 4 (some .int), .fieldLink RX0 9 "ScannedDigits$Digit" "glow" "[I"] ++ wsX50 ++ wsX00 ++ wsX30)
def wsX5_litIn_r1 : List Cond := [Cond.fieldLink RX5 10 "ScannedDigits" "now" "LScannedDigits$State;", Cond.fieldLink RX5 16 "ScannedDigits" "future" "LScannedDigits$State;", Cond.methodLink RX5 56 yX3_find, Cond.instanceMethod yX3_find, Cond.selects RX3 yX3_find yX3_find, Cond.initialized RX3, Cond.code yX3_find cX3_find 2 (some (.object "ScannedDigits$Digit")), Cond.fieldLink RX3 17 "ScannedDigits$State" "digitCount" "I", Cond.fieldLink RX3 11 "ScannedDigits$State" "digits" "[LScannedDigits$Digit;", Cond.static yX5_isWithin, Cond.initialized RX5, Cond.code yX5_isWithin cX5_isWithin 3 (some .boolean), Cond.methodLink RX5 40 yX5_isWithin, Cond.methodLink RX5 161 yX3_copyFrom, Cond.instanceMethod yX3_copyFrom, Cond.selects RX3 yX3_copyFrom yX3_copyFrom, Cond.code yX3_copyFrom cX3_copyFrom 3 none, Cond.fieldLink RX3 21 "ScannedDigits$State" "on" "[I", Cond.methodLink RX3 44 arraycopyName, Cond.native arraycopyName, Cond.static arraycopyName, Cond.initialized "java/lang/System", Cond.fieldLink RX3 25 "ScannedDigits$State" "off" "[I", Cond.fieldLink RX3 36 "ScannedDigits$State" "settings" "[I"]
def wsX5_litIn_r2 : List Cond := [Cond.fieldLink RX3 50 "ScannedDigits$State" "time" "I", Cond.fieldLink RX3 53 "ScannedDigits$State" "frame" "I", Cond.fieldLink RX3 56 "ScannedDigits$State" "frameTicks" "I", Cond.fieldLink RX3 59 "ScannedDigits$State" "testFrames" "I", Cond.fieldLink RX3 62 "ScannedDigits$State" "drivenTicks" "I", Cond.fieldLink RX3 65 "ScannedDigits$State" "current" "F", Cond.fieldLink RX3 69 "ScannedDigits$State" "peak" "F", Cond.fieldLink RX3 72 "ScannedDigits$State" "charge" "F", Cond.methodLink RX3 40 yX0_copyFrom, Cond.instanceMethod yX0_copyFrom, Cond.selects RX0 yX0_copyFrom yX0_copyFrom, Cond.initialized RX0, Cond.code yX0_copyFrom cX0_copyFrom 2 none, Cond.fieldLink RX0 21 "ScannedDigits$Digit" "width" "I", Cond.fieldLink RX0 25 "ScannedDigits$Digit" "guard" "I", Cond.fieldLink RX0 28 "ScannedDigits$Digit" "brightness" "I", Cond.fieldLink RX0 31 "ScannedDigits$Digit" "pattern" "I", Cond.fieldLink RX0 34 "ScannedDigits$Digit" "group" "I", Cond.fieldLink RX0 37 "ScannedDigits$Digit" "drivenTicks" "I", Cond.fieldLink RX0 43 "ScannedDigits$Digit" "broken" "I", Cond.fieldLink RX0 9 "ScannedDigits$Digit" "glow" "[I", Cond.methodLink RX0 46 arraycopyName, Cond.fieldLink RX0 15 "ScannedDigits$Digit" "use" "[I", Cond.methodLink RX5 119 yX3_runTicks]
def wsX5_litIn_r3 : List Cond := [Cond.instanceMethod yX3_runTicks, Cond.selects RX3 yX3_runTicks yX3_runTicks, Cond.code yX3_runTicks cX3_runTicks 4 (some .int), Cond.methodLink RX3 123 yX3_runTick, Cond.instanceMethod yX3_runTick, Cond.selects RX3 yX3_runTick yX3_runTick, Cond.code yX3_runTick cX3_runTick 4 (some .int), Cond.fieldLink RX3 129 "ScannedDigits$Digit" "drivenTicks" "I", Cond.methodLink RX3 116 yX3_slotNow, Cond.instanceMethod yX3_slotNow, Cond.selects RX3 yX3_slotNow yX3_slotNow, Cond.code yX3_slotNow cX3_slotNow 3 (some .int), Cond.fieldLink RX3 85 "ScannedDigits$Digit" "width" "I", Cond.methodLink RX3 126 yX3_litNext, Cond.instanceMethod yX3_litNext, Cond.selects RX3 yX3_litNext yX3_litNext, Cond.code yX3_litNext cX3_litNext 3 (some .int), Cond.fieldLink RX3 88 "ScannedDigits$Digit" "pattern" "I", Cond.fieldLink RX3 98 "ScannedDigits$Digit" "broken" "I", Cond.methodLink RX3 120 yX3_isDriven, Cond.instanceMethod yX3_isDriven, Cond.selects RX3 yX3_isDriven yX3_isDriven, Cond.code yX3_isDriven cX3_isDriven 5 (some .boolean), Cond.fieldLink RX3 106 "ScannedDigits$Digit" "brightness" "I"]
def wsX5_litIn_r4 : List Cond := [Cond.fieldLink RX3 95 "ScannedDigits$Digit" "group" "I", Cond.methodLink RX3 109 yX0_litPartAt, Cond.instanceMethod yX0_litPartAt, Cond.selects RX0 yX0_litPartAt yX0_litPartAt, Cond.code yX0_litPartAt cX0_litPartAt 2 (some .int), Cond.methodLink RX3 91 yX3_slotStart, Cond.instanceMethod yX3_slotStart, Cond.selects RX3 yX3_slotStart yX3_slotStart, Cond.code yX3_slotStart cX3_slotStart 4 (some .int), Cond.methodLink RX3 112 yX3_isGroupOn, Cond.instanceMethod yX3_isGroupOn, Cond.selects RX3 yX3_isGroupOn yX3_isGroupOn, Cond.code yX3_isGroupOn cX3_isGroupOn 3 (some .boolean), Cond.methodLink RX3 130 yX0_runTick, Cond.instanceMethod yX0_runTick, Cond.selects RX0 yX0_runTick yX0_runTick, Cond.code yX0_runTick cX0_runTick 5 none, Cond.static yX5_glowUnlit, Cond.code yX5_glowUnlit cX5_glowUnlit 3 (some .int), Cond.methodLink RX5 234 Lib.Math.max.name, Cond.static Lib.Math.max.name, Cond.initialized "java/lang/Math", Cond.code Lib.Math.max.name Lib.Math.max.code 2 (some .int), Cond.static yX5_glowLit]
def wsX5_litIn_r5 : List Cond := [Cond.code yX5_glowLit cX5_glowLit 2 (some .int), Cond.methodLink RX5 240 Lib.Math.min.name, Cond.static Lib.Math.min.name, Cond.code Lib.Math.min.name Lib.Math.min.code 2 (some .int), Cond.methodLink RX3 101 yJ6_bitCount_0f7a4, Cond.static yJ6_bitCount_0f7a4, Cond.initialized RJ6, Cond.code yJ6_bitCount_0f7a4 cJ6_bitCount_0f7a4 1 (some .int), Cond.constant RJ6 265 (1431655765), Cond.constant RJ6 266 (858993459), Cond.constant RJ6 267 (252645135), Cond.methodLink RX3 133 yX3_runCurrent, Cond.instanceMethod yX3_runCurrent, Cond.selects RX3 yX3_runCurrent yX3_runCurrent, Cond.code yX3_runCurrent cX3_runCurrent 2 none, Cond.constantFloat RX3 140 (1075838976), Cond.constantFloat RX3 141 (1040187392), Cond.constantFloat RX3 142 (981668463), Cond.methodLink RX3 137 yX3_frameLength, Cond.instanceMethod yX3_frameLength, Cond.selects RX3 yX3_frameLength yX3_frameLength, Cond.code yX3_frameLength cX3_frameLength 1 (some .int), Cond.methodLink RX3 82 yX3_beginFrame, Cond.instanceMethod yX3_beginFrame]
def wsX5_litIn_r6 : List Cond := [Cond.selects RX3 yX3_beginFrame yX3_beginFrame, Cond.code yX3_beginFrame cX3_beginFrame 1 none, Cond.methodLink RX5 192 yX3_slotNow, Cond.methodLink RX5 195 yX3_litNext]
def wsX5_litIn : List Cond := .code yX5_litIn cX5_litIn 3 (some .int) :: ((wsX5_litIn_r1 ++ (wsX5_litIn_r2 ++ (wsX5_litIn_r3 ++ (wsX5_litIn_r4 ++ (wsX5_litIn_r5 ++ wsX5_litIn_r6))))) ++ wsX50 ++ wsX30 ++ wsX00)
def wsX5_glowOfFrames : List Cond := .code yX5_glowOfFrames cX5_glowOfFrames 7 (some .int) :: ([.methodLink RX5 243 yX5_glowLit, .static yX5_glowLit, .initialized RX5, .code yX5_glowLit cX5_glowLit 2 (some .int), .methodLink RX5 234 Lib.Math.max.name, .static Lib.Math.max.name, .initialized "java/lang/Math", .code Lib.Math.max.name Lib.Math.max.code 2 (some .int), .methodLink RX5 240 Lib.Math.min.name, .static Lib.Math.min.name, .code Lib.Math.min.name Lib.Math.min.code 2 (some .int), .methodLink RX5 246 yX5_glowUnlit, .static yX5_glowUnlit, .code yX5_glowUnlit cX5_glowUnlit 3 (some .int)])
def wsX5_steadyGlow_r1 : List Cond := [Cond.fieldLink RX5 10 "ScannedDigits" "now" "LScannedDigits$State;", Cond.fieldLink RX5 102 "ScannedDigits$State" "settings" "[I", Cond.methodLink RX5 56 yX3_find, Cond.instanceMethod yX3_find, Cond.selects RX3 yX3_find yX3_find, Cond.initialized RX3, Cond.code yX3_find cX3_find 2 (some (.object "ScannedDigits$Digit")), Cond.fieldLink RX3 17 "ScannedDigits$State" "digitCount" "I", Cond.fieldLink RX3 11 "ScannedDigits$State" "digits" "[LScannedDigits$Digit;", Cond.static yX5_isWithin, Cond.initialized RX5, Cond.code yX5_isWithin cX5_isWithin 3 (some .boolean), Cond.methodLink RX5 73 yX0_litPart, Cond.instanceMethod yX0_litPart, Cond.selects RX0 yX0_litPart yX0_litPart, Cond.initialized RX0, Cond.code yX0_litPart cX0_litPart 1 (some .int), Cond.fieldLink RX0 28 "ScannedDigits$Digit" "brightness" "I", Cond.methodLink RX0 52 yX0_litPartAt, Cond.instanceMethod yX0_litPartAt, Cond.selects RX0 yX0_litPartAt yX0_litPartAt, Cond.code yX0_litPartAt cX0_litPartAt 2 (some .int), Cond.fieldLink RX0 21 "ScannedDigits$Digit" "width" "I", Cond.fieldLink RX0 25 "ScannedDigits$Digit" "guard" "I"]
def wsX5_steadyGlow_r2 : List Cond := [Cond.methodLink RX5 64 yX3_frameLength, Cond.instanceMethod yX3_frameLength, Cond.selects RX3 yX3_frameLength yX3_frameLength, Cond.code yX3_frameLength cX3_frameLength 1 (some .int), Cond.methodLink RX3 91 yX3_slotStart, Cond.instanceMethod yX3_slotStart, Cond.selects RX3 yX3_slotStart yX3_slotStart, Cond.code yX3_slotStart cX3_slotStart 4 (some .int), Cond.fieldLink RX3 85 "ScannedDigits$Digit" "width" "I", Cond.methodLink RX5 198 yX5_glowOfFrames, Cond.static yX5_glowOfFrames, Cond.code yX5_glowOfFrames cX5_glowOfFrames 7 (some .int), Cond.methodLink RX5 243 yX5_glowLit, Cond.static yX5_glowLit, Cond.code yX5_glowLit cX5_glowLit 2 (some .int), Cond.methodLink RX5 234 Lib.Math.max.name, Cond.static Lib.Math.max.name, Cond.initialized "java/lang/Math", Cond.code Lib.Math.max.name Lib.Math.max.code 2 (some .int), Cond.methodLink RX5 240 Lib.Math.min.name, Cond.static Lib.Math.min.name, Cond.code Lib.Math.min.name Lib.Math.min.code 2 (some .int), Cond.methodLink RX5 246 yX5_glowUnlit, Cond.static yX5_glowUnlit]
def wsX5_steadyGlow_r3 : List Cond := [Cond.code yX5_glowUnlit cX5_glowUnlit 3 (some .int)]
def wsX5_steadyGlow : List Cond := .code yX5_steadyGlow cX5_steadyGlow 4 (some .int) :: ((wsX5_steadyGlow_r1 ++ (wsX5_steadyGlow_r2 ++ wsX5_steadyGlow_r3)) ++ wsX50 ++ wsX30 ++ wsX00)
def wsX5_current : List Cond := .code yX5_current cX5_current 2 (some .float) :: ([.fieldLink RX5 10 "ScannedDigits" "now" "LScannedDigits$State;", .fieldLink RX5 202 "ScannedDigits$State" "current" "F", .fieldLink RX5 206 "ScannedDigits$State" "peak" "F", .fieldLink RX5 209 "ScannedDigits$State" "charge" "F"] ++ wsX50 ++ wsX30)
def wsX5_thousandths : List Cond := .code yX5_thousandths cX5_thousandths 2 (some .int) :: ([.constantFloat RX5 215 (1148846080), .methodLink RX5 40 yX5_isWithin, .static yX5_isWithin, .initialized RX5, .code yX5_isWithin cX5_isWithin 3 (some .boolean), .methodLink RX5 212 yX5_current, .instanceMethod yX5_current, .selects RX5 yX5_current yX5_current, .code yX5_current cX5_current 2 (some .float), .fieldLink RX5 10 "ScannedDigits" "now" "LScannedDigits$State;", .fieldLink RX5 202 "ScannedDigits$State" "current" "F", .fieldLink RX5 206 "ScannedDigits$State" "peak" "F", .fieldLink RX5 209 "ScannedDigits$State" "charge" "F"] ++ wsX50 ++ wsX30)
def wsX5_duty : List Cond := .code yX5_duty cX5_duty 3 (some .float) :: ([.fieldLink RX5 10 "ScannedDigits" "now" "LScannedDigits$State;", .fieldLink RX5 125 "ScannedDigits$State" "time" "I", .fieldLink RX5 183 "ScannedDigits$Digit" "drivenTicks" "I", .methodLink RX5 56 yX3_find, .instanceMethod yX3_find, .selects RX3 yX3_find yX3_find, .initialized RX3, .code yX3_find cX3_find 2 (some (.object "ScannedDigits$Digit")), .fieldLink RX3 17 "ScannedDigits$State" "digitCount" "I", .fieldLink RX3 11 "ScannedDigits$State" "digits" "[LScannedDigits$Digit;", .static yX5_isWithin, .initialized RX5, .code yX5_isWithin cX5_isWithin 3 (some .boolean)] ++ wsX50 ++ wsX30 ++ wsX00)
def wsX5_count_r1 : List Cond := [Cond.fieldLink RX5 10 "ScannedDigits" "now" "LScannedDigits$State;", Cond.fieldLink RX5 125 "ScannedDigits$State" "time" "I", Cond.fieldLink RX5 48 "ScannedDigits$State" "digitCount" "I", Cond.fieldLink RX5 216 "ScannedDigits$State" "frame" "I", Cond.fieldLink RX5 122 "ScannedDigits$State" "frameTicks" "I", Cond.fieldLink RX5 116 "ScannedDigits$State" "testFrames" "I", Cond.fieldLink RX5 219 "ScannedDigits$State" "drivenTicks" "I", Cond.fieldLink RX5 102 "ScannedDigits$State" "settings" "[I", Cond.fieldLink RX5 22 "ScannedDigits" "history" "LScannedDigits$History;", Cond.fieldLink RX5 152 "ScannedDigits$History" "size" "I", Cond.fieldLink RX5 35 "ScannedDigits" "text" "LScannedDigits$Text;", Cond.fieldLink RX5 136 "ScannedDigits$Text" "length" "I", Cond.methodLink RX5 64 yX3_frameLength, Cond.instanceMethod yX3_frameLength, Cond.selects RX3 yX3_frameLength yX3_frameLength, Cond.initialized RX3, Cond.code yX3_frameLength cX3_frameLength 1 (some .int), Cond.fieldLink RX3 17 "ScannedDigits$State" "digitCount" "I", Cond.methodLink RX3 91 yX3_slotStart, Cond.instanceMethod yX3_slotStart, Cond.selects RX3 yX3_slotStart yX3_slotStart, Cond.code yX3_slotStart cX3_slotStart 4 (some .int), Cond.fieldLink RX3 11 "ScannedDigits$State" "digits" "[LScannedDigits$Digit;", Cond.fieldLink RX3 85 "ScannedDigits$Digit" "width" "I"]
def wsX5_count_r2 : List Cond := [Cond.methodLink RX5 192 yX3_slotNow, Cond.instanceMethod yX3_slotNow, Cond.selects RX3 yX3_slotNow yX3_slotNow, Cond.code yX3_slotNow cX3_slotNow 3 (some .int), Cond.fieldLink RX3 56 "ScannedDigits$State" "frameTicks" "I", Cond.methodLink RX5 220 yX3_brokenSegments, Cond.instanceMethod yX3_brokenSegments, Cond.selects RX3 yX3_brokenSegments yX3_brokenSegments, Cond.code yX3_brokenSegments cX3_brokenSegments 3 (some .int), Cond.fieldLink RX3 98 "ScannedDigits$Digit" "broken" "I", Cond.methodLink RX3 101 yJ6_bitCount_0f7a4, Cond.static yJ6_bitCount_0f7a4, Cond.initialized RJ6, Cond.code yJ6_bitCount_0f7a4 cJ6_bitCount_0f7a4 1 (some .int), Cond.constant RJ6 265 (1431655765), Cond.constant RJ6 266 (858993459), Cond.constant RJ6 267 (252645135)]
def wsX5_count : List Cond := .code yX5_count cX5_count 2 (some .int) :: ((wsX5_count_r1 ++ wsX5_count_r2) ++ wsX50 ++ wsX30 ++ wsX10 ++ wsX40 ++ wsX00)
def wsX5_group : List Cond := .code yX5_group cX5_group 3 (some .int) :: ([.fieldLink RX5 10 "ScannedDigits" "now" "LScannedDigits$State;", .fieldLink RX5 85 "ScannedDigits$State" "on" "[I", .fieldLink RX5 89 "ScannedDigits$State" "off" "[I", .methodLink RX5 40 yX5_isWithin, .static yX5_isWithin, .initialized RX5, .code yX5_isWithin cX5_isWithin 3 (some .boolean), .methodLink RX5 223 yX3_isGroupOn, .instanceMethod yX3_isGroupOn, .selects RX3 yX3_isGroupOn yX3_isGroupOn, .initialized RX3, .code yX3_isGroupOn cX3_isGroupOn 3 (some .boolean), .fieldLink RX3 21 "ScannedDigits$State" "on" "[I", .fieldLink RX3 25 "ScannedDigits$State" "off" "[I", .fieldLink RX3 53 "ScannedDigits$State" "frame" "I", .methodLink RX5 92 yX3_digitsInGroup, .instanceMethod yX3_digitsInGroup, .selects RX3 yX3_digitsInGroup yX3_digitsInGroup, .code yX3_digitsInGroup cX3_digitsInGroup 4 (some .int), .fieldLink RX3 17 "ScannedDigits$State" "digitCount" "I", .fieldLink RX3 11 "ScannedDigits$State" "digits" "[LScannedDigits$Digit;", .fieldLink RX3 95 "ScannedDigits$Digit" "group" "I"] ++ wsX50 ++ wsX30 ++ wsX00)
def wsX6_put : List Cond := .code yX6_put cX6_put 4 none :: ([.fieldLink RX6 7 "ScannedDigitsModel" "row" "[I"] ++ wsX60)
def wsX6_renew : List Cond := .code yX6_renew cX6_renew 3 none :: ([.fieldLink RX6 7 "ScannedDigitsModel" "row" "[I"] ++ wsX60)
def wsX6_begins : List Cond := .code yX6_begins cX6_begins 2 none :: ([.methodLink RX6 66 yX6_put, .instanceMethod yX6_put, .selects RX6 yX6_put yX6_put, .initialized RX6, .code yX6_put cX6_put 4 none, .fieldLink RX6 7 "ScannedDigitsModel" "row" "[I", .methodLink RX6 70 yX6_renew, .instanceMethod yX6_renew, .selects RX6 yX6_renew yX6_renew, .code yX6_renew cX6_renew 3 none] ++ wsX60)
def wsX6_init_r1 : List Cond := [Cond.methodLink RX6 1 objectInit, Cond.instanceMethod objectInit, Cond.code objectInit ⟨#[0xb1]⟩ 1 none, Cond.arrayClass .int, Cond.fieldLink RX6 7 "ScannedDigitsModel" "row" "[I", Cond.arrayClass .float, Cond.fieldLink RX6 13 "ScannedDigitsModel" "flow" "[F", Cond.fieldLink RX6 17 "ScannedDigitsModel" "scratch" "[I", Cond.fieldLink RX6 20 "ScannedDigitsModel" "scratchFlow" "[F", Cond.fieldLink RX6 23 "ScannedDigitsModel" "history" "[I", Cond.fieldLink RX6 26 "ScannedDigitsModel" "historyFlow" "[F", Cond.fieldLink RX6 29 "ScannedDigitsModel" "slots" "[I", Cond.fieldLink RX6 32 "ScannedDigitsModel" "slotFlow" "[F", Cond.arrayClass .boolean, Cond.fieldLink RX6 35 "ScannedDigitsModel" "isKept" "[Z", Cond.arrayClass .char, Cond.fieldLink RX6 39 "ScannedDigitsModel" "text" "[C", Cond.fieldLink RX6 43 "ScannedDigitsModel" "read" "[I", Cond.constant RX6 46 (100000), Cond.methodLink RX6 47 yX6_begins, Cond.instanceMethod yX6_begins, Cond.selects RX6 yX6_begins yX6_begins, Cond.initialized RX6, Cond.code yX6_begins cX6_begins 2 none]
def wsX6_init_r2 : List Cond := [Cond.methodLink RX6 66 yX6_put, Cond.instanceMethod yX6_put, Cond.selects RX6 yX6_put yX6_put, Cond.code yX6_put cX6_put 4 none, Cond.methodLink RX6 70 yX6_renew, Cond.instanceMethod yX6_renew, Cond.selects RX6 yX6_renew yX6_renew, Cond.code yX6_renew cX6_renew 3 none]
def wsX6_init : List Cond := .code yX6_init cX6_init 2 none :: ((wsX6_init_r1 ++ wsX6_init_r2) ++ wsX60)
def wsX6_in : List Cond := .code yX6_in cX6_in 3 (some .boolean) :: ([])
def wsX6_begin : List Cond := .code yX6_begin cX6_begin 2 none :: ([.fieldLink RX6 17 "ScannedDigitsModel" "scratch" "[I", .fieldLink RX6 7 "ScannedDigitsModel" "row" "[I", .fieldLink RX6 20 "ScannedDigitsModel" "scratchFlow" "[F", .fieldLink RX6 13 "ScannedDigitsModel" "flow" "[F"] ++ wsX60)
def wsX6_goBack : List Cond := .code yX6_goBack cX6_goBack 2 none :: ([.fieldLink RX6 7 "ScannedDigitsModel" "row" "[I", .fieldLink RX6 17 "ScannedDigitsModel" "scratch" "[I", .fieldLink RX6 13 "ScannedDigitsModel" "flow" "[F", .fieldLink RX6 20 "ScannedDigitsModel" "scratchFlow" "[F"] ++ wsX60)
def wsX6_done : List Cond := .code yX6_done cX6_done 3 (some .int) :: ([.fieldLink RX6 51 "ScannedDigitsModel" "kept" "I", .fieldLink RX6 23 "ScannedDigitsModel" "history" "[I", .fieldLink RX6 26 "ScannedDigitsModel" "historyFlow" "[F", .fieldLink RX6 17 "ScannedDigitsModel" "scratch" "[I", .fieldLink RX6 20 "ScannedDigitsModel" "scratchFlow" "[F"] ++ wsX60)
def wsX6_undo : List Cond := .code yX6_undo cX6_undo 2 (some .int) :: ([.fieldLink RX6 51 "ScannedDigitsModel" "kept" "I", .fieldLink RX6 7 "ScannedDigitsModel" "row" "[I", .fieldLink RX6 23 "ScannedDigitsModel" "history" "[I", .fieldLink RX6 13 "ScannedDigitsModel" "flow" "[F", .fieldLink RX6 26 "ScannedDigitsModel" "historyFlow" "[F"] ++ wsX60)
def wsX6_keep : List Cond := .code yX6_keep cX6_keep 3 (some .int) :: ([.fieldLink RX6 35 "ScannedDigitsModel" "isKept" "[Z", .fieldLink RX6 29 "ScannedDigitsModel" "slots" "[I", .fieldLink RX6 7 "ScannedDigitsModel" "row" "[I", .fieldLink RX6 32 "ScannedDigitsModel" "slotFlow" "[F", .fieldLink RX6 13 "ScannedDigitsModel" "flow" "[F", .methodLink RX6 55 yX6_in, .static yX6_in, .initialized RX6, .code yX6_in cX6_in 3 (some .boolean)] ++ wsX60)
def wsX6_restore : List Cond := .code yX6_restore cX6_restore 3 (some .int) :: ([.fieldLink RX6 35 "ScannedDigitsModel" "isKept" "[Z", .fieldLink RX6 7 "ScannedDigitsModel" "row" "[I", .fieldLink RX6 29 "ScannedDigitsModel" "slots" "[I", .fieldLink RX6 13 "ScannedDigitsModel" "flow" "[F", .fieldLink RX6 32 "ScannedDigitsModel" "slotFlow" "[F", .methodLink RX6 55 yX6_in, .static yX6_in, .initialized RX6, .code yX6_in cX6_in 3 (some .boolean), .methodLink RX6 59 yX6_begin, .instanceMethod yX6_begin, .selects RX6 yX6_begin yX6_begin, .code yX6_begin cX6_begin 2 none, .fieldLink RX6 17 "ScannedDigitsModel" "scratch" "[I", .fieldLink RX6 20 "ScannedDigitsModel" "scratchFlow" "[F", .methodLink RX6 62 yX6_done, .instanceMethod yX6_done, .selects RX6 yX6_done yX6_done, .code yX6_done cX6_done 3 (some .int), .fieldLink RX6 51 "ScannedDigitsModel" "kept" "I", .fieldLink RX6 23 "ScannedDigitsModel" "history" "[I", .fieldLink RX6 26 "ScannedDigitsModel" "historyFlow" "[F"] ++ wsX60)
def wsX6_of : List Cond := .code yX6_of cX6_of 3 (some .int) :: ([.fieldLink RX6 7 "ScannedDigitsModel" "row" "[I"] ++ wsX60)
def wsX6_noDigit : List Cond := .code yX6_noDigit cX6_noDigit 2 (some .boolean) :: ([.fieldLink RX6 7 "ScannedDigitsModel" "row" "[I", .methodLink RX6 55 yX6_in, .static yX6_in, .initialized RX6, .code yX6_in cX6_in 3 (some .boolean)] ++ wsX60)
def wsX6_litPart : List Cond := .code yX6_litPart cX6_litPart 2 (some .int) :: ([.methodLink RX6 73 yX6_of, .instanceMethod yX6_of, .selects RX6 yX6_of yX6_of, .initialized RX6, .code yX6_of cX6_of 3 (some .int), .fieldLink RX6 7 "ScannedDigitsModel" "row" "[I"] ++ wsX60)
def wsX6_beginOf : List Cond := .code yX6_beginOf cX6_beginOf 4 (some .int) :: ([.methodLink RX6 73 yX6_of, .instanceMethod yX6_of, .selects RX6 yX6_of yX6_of, .initialized RX6, .code yX6_of cX6_of 3 (some .int), .fieldLink RX6 7 "ScannedDigitsModel" "row" "[I"] ++ wsX60)
def wsX6_frameLength : List Cond := .code yX6_frameLength cX6_frameLength 1 (some .int) :: ([.fieldLink RX6 7 "ScannedDigitsModel" "row" "[I", .methodLink RX6 77 yX6_beginOf, .instanceMethod yX6_beginOf, .selects RX6 yX6_beginOf yX6_beginOf, .initialized RX6, .code yX6_beginOf cX6_beginOf 4 (some .int), .methodLink RX6 73 yX6_of, .instanceMethod yX6_of, .selects RX6 yX6_of yX6_of, .code yX6_of cX6_of 3 (some .int)] ++ wsX60)
def wsX6_endFrame : List Cond := .code yX6_endFrame cX6_endFrame 1 none :: ([.fieldLink RX6 7 "ScannedDigitsModel" "row" "[I"] ++ wsX60)
def wsX6_setDigits_r1 : List Cond := [Cond.fieldLink RX6 7 "ScannedDigitsModel" "row" "[I", Cond.methodLink RX6 55 yX6_in, Cond.static yX6_in, Cond.initialized RX6, Cond.code yX6_in cX6_in 3 (some .boolean), Cond.methodLink RX6 59 yX6_begin, Cond.instanceMethod yX6_begin, Cond.selects RX6 yX6_begin yX6_begin, Cond.code yX6_begin cX6_begin 2 none, Cond.fieldLink RX6 17 "ScannedDigitsModel" "scratch" "[I", Cond.fieldLink RX6 20 "ScannedDigitsModel" "scratchFlow" "[F", Cond.fieldLink RX6 13 "ScannedDigitsModel" "flow" "[F", Cond.methodLink RX6 47 yX6_begins, Cond.instanceMethod yX6_begins, Cond.selects RX6 yX6_begins yX6_begins, Cond.code yX6_begins cX6_begins 2 none, Cond.methodLink RX6 66 yX6_put, Cond.instanceMethod yX6_put, Cond.selects RX6 yX6_put yX6_put, Cond.code yX6_put cX6_put 4 none, Cond.methodLink RX6 70 yX6_renew, Cond.instanceMethod yX6_renew, Cond.selects RX6 yX6_renew yX6_renew, Cond.code yX6_renew cX6_renew 3 none]
def wsX6_setDigits_r2 : List Cond := [Cond.methodLink RX6 80 yX6_endFrame, Cond.instanceMethod yX6_endFrame, Cond.selects RX6 yX6_endFrame yX6_endFrame, Cond.code yX6_endFrame cX6_endFrame 1 none, Cond.methodLink RX6 62 yX6_done, Cond.instanceMethod yX6_done, Cond.selects RX6 yX6_done yX6_done, Cond.code yX6_done cX6_done 3 (some .int), Cond.fieldLink RX6 51 "ScannedDigitsModel" "kept" "I", Cond.fieldLink RX6 23 "ScannedDigitsModel" "history" "[I", Cond.fieldLink RX6 26 "ScannedDigitsModel" "historyFlow" "[F"]
def wsX6_setDigits : List Cond := .code yX6_setDigits cX6_setDigits 4 (some .int) :: ((wsX6_setDigits_r1 ++ wsX6_setDigits_r2) ++ wsX60)
def wsX6_setWidth_r1 : List Cond := [Cond.methodLink RX6 83 yX6_noDigit, Cond.instanceMethod yX6_noDigit, Cond.selects RX6 yX6_noDigit yX6_noDigit, Cond.initialized RX6, Cond.code yX6_noDigit cX6_noDigit 2 (some .boolean), Cond.fieldLink RX6 7 "ScannedDigitsModel" "row" "[I", Cond.methodLink RX6 55 yX6_in, Cond.static yX6_in, Cond.code yX6_in cX6_in 3 (some .boolean), Cond.methodLink RX6 59 yX6_begin, Cond.instanceMethod yX6_begin, Cond.selects RX6 yX6_begin yX6_begin, Cond.code yX6_begin cX6_begin 2 none, Cond.fieldLink RX6 17 "ScannedDigitsModel" "scratch" "[I", Cond.fieldLink RX6 20 "ScannedDigitsModel" "scratchFlow" "[F", Cond.fieldLink RX6 13 "ScannedDigitsModel" "flow" "[F", Cond.methodLink RX6 73 yX6_of, Cond.instanceMethod yX6_of, Cond.selects RX6 yX6_of yX6_of, Cond.code yX6_of cX6_of 3 (some .int), Cond.methodLink RX6 66 yX6_put, Cond.instanceMethod yX6_put, Cond.selects RX6 yX6_put yX6_put, Cond.code yX6_put cX6_put 4 none]
def wsX6_setWidth_r2 : List Cond := [Cond.methodLink RX6 80 yX6_endFrame, Cond.instanceMethod yX6_endFrame, Cond.selects RX6 yX6_endFrame yX6_endFrame, Cond.code yX6_endFrame cX6_endFrame 1 none, Cond.methodLink RX6 87 yX6_frameLength, Cond.instanceMethod yX6_frameLength, Cond.selects RX6 yX6_frameLength yX6_frameLength, Cond.code yX6_frameLength cX6_frameLength 1 (some .int), Cond.methodLink RX6 77 yX6_beginOf, Cond.instanceMethod yX6_beginOf, Cond.selects RX6 yX6_beginOf yX6_beginOf, Cond.code yX6_beginOf cX6_beginOf 4 (some .int), Cond.methodLink RX6 62 yX6_done, Cond.instanceMethod yX6_done, Cond.selects RX6 yX6_done yX6_done, Cond.code yX6_done cX6_done 3 (some .int), Cond.fieldLink RX6 51 "ScannedDigitsModel" "kept" "I", Cond.fieldLink RX6 23 "ScannedDigitsModel" "history" "[I", Cond.fieldLink RX6 26 "ScannedDigitsModel" "historyFlow" "[F"]
def wsX6_setWidth : List Cond := .code yX6_setWidth cX6_setWidth 4 (some .int) :: ((wsX6_setWidth_r1 ++ wsX6_setWidth_r2) ++ wsX60)
def wsX6_setGuard_r1 : List Cond := [Cond.methodLink RX6 83 yX6_noDigit, Cond.instanceMethod yX6_noDigit, Cond.selects RX6 yX6_noDigit yX6_noDigit, Cond.initialized RX6, Cond.code yX6_noDigit cX6_noDigit 2 (some .boolean), Cond.fieldLink RX6 7 "ScannedDigitsModel" "row" "[I", Cond.methodLink RX6 55 yX6_in, Cond.static yX6_in, Cond.code yX6_in cX6_in 3 (some .boolean), Cond.methodLink RX6 59 yX6_begin, Cond.instanceMethod yX6_begin, Cond.selects RX6 yX6_begin yX6_begin, Cond.code yX6_begin cX6_begin 2 none, Cond.fieldLink RX6 17 "ScannedDigitsModel" "scratch" "[I", Cond.fieldLink RX6 20 "ScannedDigitsModel" "scratchFlow" "[F", Cond.fieldLink RX6 13 "ScannedDigitsModel" "flow" "[F", Cond.methodLink RX6 66 yX6_put, Cond.instanceMethod yX6_put, Cond.selects RX6 yX6_put yX6_put, Cond.code yX6_put cX6_put 4 none, Cond.methodLink RX6 91 yX6_litPart, Cond.instanceMethod yX6_litPart, Cond.selects RX6 yX6_litPart yX6_litPart, Cond.code yX6_litPart cX6_litPart 2 (some .int)]
def wsX6_setGuard_r2 : List Cond := [Cond.methodLink RX6 73 yX6_of, Cond.instanceMethod yX6_of, Cond.selects RX6 yX6_of yX6_of, Cond.code yX6_of cX6_of 3 (some .int), Cond.methodLink RX6 62 yX6_done, Cond.instanceMethod yX6_done, Cond.selects RX6 yX6_done yX6_done, Cond.code yX6_done cX6_done 3 (some .int), Cond.fieldLink RX6 51 "ScannedDigitsModel" "kept" "I", Cond.fieldLink RX6 23 "ScannedDigitsModel" "history" "[I", Cond.fieldLink RX6 26 "ScannedDigitsModel" "historyFlow" "[F"]
def wsX6_setGuard : List Cond := .code yX6_setGuard cX6_setGuard 3 (some .int) :: ((wsX6_setGuard_r1 ++ wsX6_setGuard_r2) ++ wsX60)
def wsX6_setBrightness_r1 : List Cond := [Cond.methodLink RX6 83 yX6_noDigit, Cond.instanceMethod yX6_noDigit, Cond.selects RX6 yX6_noDigit yX6_noDigit, Cond.initialized RX6, Cond.code yX6_noDigit cX6_noDigit 2 (some .boolean), Cond.fieldLink RX6 7 "ScannedDigitsModel" "row" "[I", Cond.methodLink RX6 55 yX6_in, Cond.static yX6_in, Cond.code yX6_in cX6_in 3 (some .boolean), Cond.methodLink RX6 59 yX6_begin, Cond.instanceMethod yX6_begin, Cond.selects RX6 yX6_begin yX6_begin, Cond.code yX6_begin cX6_begin 2 none, Cond.fieldLink RX6 17 "ScannedDigitsModel" "scratch" "[I", Cond.fieldLink RX6 20 "ScannedDigitsModel" "scratchFlow" "[F", Cond.fieldLink RX6 13 "ScannedDigitsModel" "flow" "[F", Cond.methodLink RX6 66 yX6_put, Cond.instanceMethod yX6_put, Cond.selects RX6 yX6_put yX6_put, Cond.code yX6_put cX6_put 4 none, Cond.methodLink RX6 91 yX6_litPart, Cond.instanceMethod yX6_litPart, Cond.selects RX6 yX6_litPart yX6_litPart, Cond.code yX6_litPart cX6_litPart 2 (some .int)]
def wsX6_setBrightness_r2 : List Cond := [Cond.methodLink RX6 73 yX6_of, Cond.instanceMethod yX6_of, Cond.selects RX6 yX6_of yX6_of, Cond.code yX6_of cX6_of 3 (some .int), Cond.methodLink RX6 62 yX6_done, Cond.instanceMethod yX6_done, Cond.selects RX6 yX6_done yX6_done, Cond.code yX6_done cX6_done 3 (some .int), Cond.fieldLink RX6 51 "ScannedDigitsModel" "kept" "I", Cond.fieldLink RX6 23 "ScannedDigitsModel" "history" "[I", Cond.fieldLink RX6 26 "ScannedDigitsModel" "historyFlow" "[F"]
def wsX6_setBrightness : List Cond := .code yX6_setBrightness cX6_setBrightness 3 (some .int) :: ((wsX6_setBrightness_r1 ++ wsX6_setBrightness_r2) ++ wsX60)
def wsX6_setPattern_r1 : List Cond := [Cond.methodLink RX6 83 yX6_noDigit, Cond.instanceMethod yX6_noDigit, Cond.selects RX6 yX6_noDigit yX6_noDigit, Cond.initialized RX6, Cond.code yX6_noDigit cX6_noDigit 2 (some .boolean), Cond.fieldLink RX6 7 "ScannedDigitsModel" "row" "[I", Cond.methodLink RX6 55 yX6_in, Cond.static yX6_in, Cond.code yX6_in cX6_in 3 (some .boolean), Cond.methodLink RX6 59 yX6_begin, Cond.instanceMethod yX6_begin, Cond.selects RX6 yX6_begin yX6_begin, Cond.code yX6_begin cX6_begin 2 none, Cond.fieldLink RX6 17 "ScannedDigitsModel" "scratch" "[I", Cond.fieldLink RX6 20 "ScannedDigitsModel" "scratchFlow" "[F", Cond.fieldLink RX6 13 "ScannedDigitsModel" "flow" "[F", Cond.methodLink RX6 73 yX6_of, Cond.instanceMethod yX6_of, Cond.selects RX6 yX6_of yX6_of, Cond.code yX6_of cX6_of 3 (some .int), Cond.methodLink RX6 66 yX6_put, Cond.instanceMethod yX6_put, Cond.selects RX6 yX6_put yX6_put, Cond.code yX6_put cX6_put 4 none]
def wsX6_setPattern_r2 : List Cond := [Cond.methodLink RX6 62 yX6_done, Cond.instanceMethod yX6_done, Cond.selects RX6 yX6_done yX6_done, Cond.code yX6_done cX6_done 3 (some .int), Cond.fieldLink RX6 51 "ScannedDigitsModel" "kept" "I", Cond.fieldLink RX6 23 "ScannedDigitsModel" "history" "[I", Cond.fieldLink RX6 26 "ScannedDigitsModel" "historyFlow" "[F"]
def wsX6_setPattern : List Cond := .code yX6_setPattern cX6_setPattern 4 (some .int) :: ((wsX6_setPattern_r1 ++ wsX6_setPattern_r2) ++ wsX60)
def wsX6_setGroup_r1 : List Cond := [Cond.methodLink RX6 83 yX6_noDigit, Cond.instanceMethod yX6_noDigit, Cond.selects RX6 yX6_noDigit yX6_noDigit, Cond.initialized RX6, Cond.code yX6_noDigit cX6_noDigit 2 (some .boolean), Cond.fieldLink RX6 7 "ScannedDigitsModel" "row" "[I", Cond.methodLink RX6 55 yX6_in, Cond.static yX6_in, Cond.code yX6_in cX6_in 3 (some .boolean), Cond.methodLink RX6 59 yX6_begin, Cond.instanceMethod yX6_begin, Cond.selects RX6 yX6_begin yX6_begin, Cond.code yX6_begin cX6_begin 2 none, Cond.fieldLink RX6 17 "ScannedDigitsModel" "scratch" "[I", Cond.fieldLink RX6 20 "ScannedDigitsModel" "scratchFlow" "[F", Cond.fieldLink RX6 13 "ScannedDigitsModel" "flow" "[F", Cond.methodLink RX6 73 yX6_of, Cond.instanceMethod yX6_of, Cond.selects RX6 yX6_of yX6_of, Cond.code yX6_of cX6_of 3 (some .int), Cond.methodLink RX6 66 yX6_put, Cond.instanceMethod yX6_put, Cond.selects RX6 yX6_put yX6_put, Cond.code yX6_put cX6_put 4 none]
def wsX6_setGroup_r2 : List Cond := [Cond.methodLink RX6 62 yX6_done, Cond.instanceMethod yX6_done, Cond.selects RX6 yX6_done yX6_done, Cond.code yX6_done cX6_done 3 (some .int), Cond.fieldLink RX6 51 "ScannedDigitsModel" "kept" "I", Cond.fieldLink RX6 23 "ScannedDigitsModel" "history" "[I", Cond.fieldLink RX6 26 "ScannedDigitsModel" "historyFlow" "[F"]
def wsX6_setGroup : List Cond := .code yX6_setGroup cX6_setGroup 4 (some .int) :: ((wsX6_setGroup_r1 ++ wsX6_setGroup_r2) ++ wsX60)
def wsX6_digitsIn : List Cond := .code yX6_digitsIn cX6_digitsIn 4 (some .int) :: ([.fieldLink RX6 7 "ScannedDigitsModel" "row" "[I", .methodLink RX6 73 yX6_of, .instanceMethod yX6_of, .selects RX6 yX6_of yX6_of, .initialized RX6, .code yX6_of cX6_of 3 (some .int)] ++ wsX60)
def wsX6_setBlink_r1 : List Cond := [Cond.fieldLink RX6 7 "ScannedDigitsModel" "row" "[I", Cond.methodLink RX6 55 yX6_in, Cond.static yX6_in, Cond.initialized RX6, Cond.code yX6_in cX6_in 3 (some .boolean), Cond.methodLink RX6 59 yX6_begin, Cond.instanceMethod yX6_begin, Cond.selects RX6 yX6_begin yX6_begin, Cond.code yX6_begin cX6_begin 2 none, Cond.fieldLink RX6 17 "ScannedDigitsModel" "scratch" "[I", Cond.fieldLink RX6 20 "ScannedDigitsModel" "scratchFlow" "[F", Cond.fieldLink RX6 13 "ScannedDigitsModel" "flow" "[F", Cond.methodLink RX6 94 yX6_digitsIn, Cond.instanceMethod yX6_digitsIn, Cond.selects RX6 yX6_digitsIn yX6_digitsIn, Cond.code yX6_digitsIn cX6_digitsIn 4 (some .int), Cond.methodLink RX6 73 yX6_of, Cond.instanceMethod yX6_of, Cond.selects RX6 yX6_of yX6_of, Cond.code yX6_of cX6_of 3 (some .int), Cond.methodLink RX6 62 yX6_done, Cond.instanceMethod yX6_done, Cond.selects RX6 yX6_done yX6_done, Cond.code yX6_done cX6_done 3 (some .int)]
def wsX6_setBlink_r2 : List Cond := [Cond.fieldLink RX6 51 "ScannedDigitsModel" "kept" "I", Cond.fieldLink RX6 23 "ScannedDigitsModel" "history" "[I", Cond.fieldLink RX6 26 "ScannedDigitsModel" "historyFlow" "[F"]
def wsX6_setBlink : List Cond := .code yX6_setBlink cX6_setBlink 4 (some .int) :: ((wsX6_setBlink_r1 ++ wsX6_setBlink_r2) ++ wsX60)
def wsX6_set : List Cond := .code yX6_set cX6_set 4 (some .int) :: ([.constant RX6 97 (1000000), .fieldLink RX6 7 "ScannedDigitsModel" "row" "[I", .methodLink RX6 55 yX6_in, .static yX6_in, .initialized RX6, .code yX6_in cX6_in 3 (some .boolean), .methodLink RX6 59 yX6_begin, .instanceMethod yX6_begin, .selects RX6 yX6_begin yX6_begin, .code yX6_begin cX6_begin 2 none, .fieldLink RX6 17 "ScannedDigitsModel" "scratch" "[I", .fieldLink RX6 20 "ScannedDigitsModel" "scratchFlow" "[F", .fieldLink RX6 13 "ScannedDigitsModel" "flow" "[F", .methodLink RX6 62 yX6_done, .instanceMethod yX6_done, .selects RX6 yX6_done yX6_done, .code yX6_done cX6_done 3 (some .int), .fieldLink RX6 51 "ScannedDigitsModel" "kept" "I", .fieldLink RX6 23 "ScannedDigitsModel" "history" "[I", .fieldLink RX6 26 "ScannedDigitsModel" "historyFlow" "[F"] ++ wsX60)
def wsX6_brokenOf : List Cond := .code yX6_brokenOf cX6_brokenOf 4 (some .int) :: ([.fieldLink RX6 7 "ScannedDigitsModel" "row" "[I"] ++ wsX60)
def wsX6_replace_r1 : List Cond := [Cond.methodLink RX6 83 yX6_noDigit, Cond.instanceMethod yX6_noDigit, Cond.selects RX6 yX6_noDigit yX6_noDigit, Cond.initialized RX6, Cond.code yX6_noDigit cX6_noDigit 2 (some .boolean), Cond.fieldLink RX6 7 "ScannedDigitsModel" "row" "[I", Cond.methodLink RX6 55 yX6_in, Cond.static yX6_in, Cond.code yX6_in cX6_in 3 (some .boolean), Cond.methodLink RX6 59 yX6_begin, Cond.instanceMethod yX6_begin, Cond.selects RX6 yX6_begin yX6_begin, Cond.code yX6_begin cX6_begin 2 none, Cond.fieldLink RX6 17 "ScannedDigitsModel" "scratch" "[I", Cond.fieldLink RX6 20 "ScannedDigitsModel" "scratchFlow" "[F", Cond.fieldLink RX6 13 "ScannedDigitsModel" "flow" "[F", Cond.methodLink RX6 98 yX6_brokenOf, Cond.instanceMethod yX6_brokenOf, Cond.selects RX6 yX6_brokenOf yX6_brokenOf, Cond.code yX6_brokenOf cX6_brokenOf 4 (some .int), Cond.methodLink RX6 70 yX6_renew, Cond.instanceMethod yX6_renew, Cond.selects RX6 yX6_renew yX6_renew, Cond.code yX6_renew cX6_renew 3 none]
def wsX6_replace_r2 : List Cond := [Cond.methodLink RX6 62 yX6_done, Cond.instanceMethod yX6_done, Cond.selects RX6 yX6_done yX6_done, Cond.code yX6_done cX6_done 3 (some .int), Cond.fieldLink RX6 51 "ScannedDigitsModel" "kept" "I", Cond.fieldLink RX6 23 "ScannedDigitsModel" "history" "[I", Cond.fieldLink RX6 26 "ScannedDigitsModel" "historyFlow" "[F"]
def wsX6_replace : List Cond := .code yX6_replace cX6_replace 3 (some .int) :: ((wsX6_replace_r1 ++ wsX6_replace_r2) ++ wsX60)
def wsX6_test : List Cond := .code yX6_test cX6_test 3 (some .int) :: ([.fieldLink RX6 7 "ScannedDigitsModel" "row" "[I", .methodLink RX6 55 yX6_in, .static yX6_in, .initialized RX6, .code yX6_in cX6_in 3 (some .boolean), .methodLink RX6 59 yX6_begin, .instanceMethod yX6_begin, .selects RX6 yX6_begin yX6_begin, .code yX6_begin cX6_begin 2 none, .fieldLink RX6 17 "ScannedDigitsModel" "scratch" "[I", .fieldLink RX6 20 "ScannedDigitsModel" "scratchFlow" "[F", .fieldLink RX6 13 "ScannedDigitsModel" "flow" "[F", .methodLink RX6 62 yX6_done, .instanceMethod yX6_done, .selects RX6 yX6_done yX6_done, .code yX6_done cX6_done 3 (some .int), .fieldLink RX6 51 "ScannedDigitsModel" "kept" "I", .fieldLink RX6 23 "ScannedDigitsModel" "history" "[I", .fieldLink RX6 26 "ScannedDigitsModel" "historyFlow" "[F"] ++ wsX60)
def wsX6_isOn : List Cond := .code yX6_isOn cX6_isOn 3 (some .boolean) :: ([.fieldLink RX6 7 "ScannedDigitsModel" "row" "[I"] ++ wsX60)
def wsX6_slotNow : List Cond := .code yX6_slotNow cX6_slotNow 2 (some .int) :: ([.fieldLink RX6 7 "ScannedDigitsModel" "row" "[I", .methodLink RX6 77 yX6_beginOf, .instanceMethod yX6_beginOf, .selects RX6 yX6_beginOf yX6_beginOf, .initialized RX6, .code yX6_beginOf cX6_beginOf 4 (some .int), .methodLink RX6 73 yX6_of, .instanceMethod yX6_of, .selects RX6 yX6_of yX6_of, .code yX6_of cX6_of 3 (some .int)] ++ wsX60)
def wsX6_isDriven : List Cond := .code yX6_isDriven cX6_isDriven 3 (some .boolean) :: ([.fieldLink RX6 7 "ScannedDigitsModel" "row" "[I", .methodLink RX6 77 yX6_beginOf, .instanceMethod yX6_beginOf, .selects RX6 yX6_beginOf yX6_beginOf, .initialized RX6, .code yX6_beginOf cX6_beginOf 4 (some .int), .methodLink RX6 73 yX6_of, .instanceMethod yX6_of, .selects RX6 yX6_of yX6_of, .code yX6_of cX6_of 3 (some .int), .methodLink RX6 91 yX6_litPart, .instanceMethod yX6_litPart, .selects RX6 yX6_litPart yX6_litPart, .code yX6_litPart cX6_litPart 2 (some .int), .methodLink RX6 101 yX6_isOn, .instanceMethod yX6_isOn, .selects RX6 yX6_isOn yX6_isOn, .code yX6_isOn cX6_isOn 3 (some .boolean)] ++ wsX60)
def wsX6_litNow_r1 : List Cond := [Cond.fieldLink RX6 7 "ScannedDigitsModel" "row" "[I", Cond.methodLink RX6 104 yX6_slotNow, Cond.instanceMethod yX6_slotNow, Cond.selects RX6 yX6_slotNow yX6_slotNow, Cond.initialized RX6, Cond.code yX6_slotNow cX6_slotNow 2 (some .int), Cond.methodLink RX6 77 yX6_beginOf, Cond.instanceMethod yX6_beginOf, Cond.selects RX6 yX6_beginOf yX6_beginOf, Cond.code yX6_beginOf cX6_beginOf 4 (some .int), Cond.methodLink RX6 73 yX6_of, Cond.instanceMethod yX6_of, Cond.selects RX6 yX6_of yX6_of, Cond.code yX6_of cX6_of 3 (some .int), Cond.methodLink RX6 107 yX6_isDriven, Cond.instanceMethod yX6_isDriven, Cond.selects RX6 yX6_isDriven yX6_isDriven, Cond.code yX6_isDriven cX6_isDriven 3 (some .boolean), Cond.methodLink RX6 91 yX6_litPart, Cond.instanceMethod yX6_litPart, Cond.selects RX6 yX6_litPart yX6_litPart, Cond.code yX6_litPart cX6_litPart 2 (some .int), Cond.methodLink RX6 101 yX6_isOn, Cond.instanceMethod yX6_isOn]
def wsX6_litNow_r2 : List Cond := [Cond.selects RX6 yX6_isOn yX6_isOn, Cond.code yX6_isOn cX6_isOn 3 (some .boolean)]
def wsX6_litNow : List Cond := .code yX6_litNow cX6_litNow 3 (some .int) :: ((wsX6_litNow_r1 ++ wsX6_litNow_r2) ++ wsX60)
def wsX6_brighter : List Cond := .code yX6_brighter cX6_brighter 3 (some .int) :: ([])
def wsX6_darker : List Cond := .code yX6_darker cX6_darker 3 (some .int) :: ([.fieldLink RX6 7 "ScannedDigitsModel" "row" "[I"] ++ wsX60)
def wsX6_light : List Cond := .code yX6_light cX6_light 5 none :: ([.fieldLink RX6 7 "ScannedDigitsModel" "row" "[I", .methodLink RX6 110 yX6_brighter, .static yX6_brighter, .initialized RX6, .code yX6_brighter cX6_brighter 3 (some .int), .methodLink RX6 113 yX6_darker, .instanceMethod yX6_darker, .selects RX6 yX6_darker yX6_darker, .code yX6_darker cX6_darker 3 (some .int)] ++ wsX60)
def wsX6_tick_r1 : List Cond := [Cond.fieldLink RX6 7 "ScannedDigitsModel" "row" "[I", Cond.fieldLink RX6 13 "ScannedDigitsModel" "flow" "[F", Cond.constantFloat RX6 123 (1075838976), Cond.constantFloat RX6 124 (1040187392), Cond.constantFloat RX6 125 (981668463), Cond.methodLink RX6 104 yX6_slotNow, Cond.instanceMethod yX6_slotNow, Cond.selects RX6 yX6_slotNow yX6_slotNow, Cond.initialized RX6, Cond.code yX6_slotNow cX6_slotNow 2 (some .int), Cond.methodLink RX6 77 yX6_beginOf, Cond.instanceMethod yX6_beginOf, Cond.selects RX6 yX6_beginOf yX6_beginOf, Cond.code yX6_beginOf cX6_beginOf 4 (some .int), Cond.methodLink RX6 73 yX6_of, Cond.instanceMethod yX6_of, Cond.selects RX6 yX6_of yX6_of, Cond.code yX6_of cX6_of 3 (some .int), Cond.methodLink RX6 116 yX6_litNow, Cond.instanceMethod yX6_litNow, Cond.selects RX6 yX6_litNow yX6_litNow, Cond.code yX6_litNow cX6_litNow 3 (some .int), Cond.methodLink RX6 107 yX6_isDriven, Cond.instanceMethod yX6_isDriven]
def wsX6_tick_r2 : List Cond := [Cond.selects RX6 yX6_isDriven yX6_isDriven, Cond.code yX6_isDriven cX6_isDriven 3 (some .boolean), Cond.methodLink RX6 91 yX6_litPart, Cond.instanceMethod yX6_litPart, Cond.selects RX6 yX6_litPart yX6_litPart, Cond.code yX6_litPart cX6_litPart 2 (some .int), Cond.methodLink RX6 101 yX6_isOn, Cond.instanceMethod yX6_isOn, Cond.selects RX6 yX6_isOn yX6_isOn, Cond.code yX6_isOn cX6_isOn 3 (some .boolean), Cond.methodLink RX6 66 yX6_put, Cond.instanceMethod yX6_put, Cond.selects RX6 yX6_put yX6_put, Cond.code yX6_put cX6_put 4 none, Cond.methodLink RX6 119 yX6_light, Cond.instanceMethod yX6_light, Cond.selects RX6 yX6_light yX6_light, Cond.code yX6_light cX6_light 5 none, Cond.methodLink RX6 110 yX6_brighter, Cond.static yX6_brighter, Cond.code yX6_brighter cX6_brighter 3 (some .int), Cond.methodLink RX6 113 yX6_darker, Cond.instanceMethod yX6_darker, Cond.selects RX6 yX6_darker yX6_darker]
def wsX6_tick_r3 : List Cond := [Cond.code yX6_darker cX6_darker 3 (some .int), Cond.methodLink RX6 87 yX6_frameLength, Cond.instanceMethod yX6_frameLength, Cond.selects RX6 yX6_frameLength yX6_frameLength, Cond.code yX6_frameLength cX6_frameLength 1 (some .int), Cond.methodLink RX6 80 yX6_endFrame, Cond.instanceMethod yX6_endFrame, Cond.selects RX6 yX6_endFrame yX6_endFrame, Cond.code yX6_endFrame cX6_endFrame 1 none]
def wsX6_tick : List Cond := .code yX6_tick cX6_tick 7 (some .int) :: ((wsX6_tick_r1 ++ (wsX6_tick_r2 ++ wsX6_tick_r3)) ++ wsX60)
def wsX6_pass_r1 : List Cond := [Cond.methodLink RX6 55 yX6_in, Cond.static yX6_in, Cond.initialized RX6, Cond.code yX6_in cX6_in 3 (some .boolean), Cond.methodLink RX6 59 yX6_begin, Cond.instanceMethod yX6_begin, Cond.selects RX6 yX6_begin yX6_begin, Cond.code yX6_begin cX6_begin 2 none, Cond.fieldLink RX6 17 "ScannedDigitsModel" "scratch" "[I", Cond.fieldLink RX6 7 "ScannedDigitsModel" "row" "[I", Cond.fieldLink RX6 20 "ScannedDigitsModel" "scratchFlow" "[F", Cond.fieldLink RX6 13 "ScannedDigitsModel" "flow" "[F", Cond.methodLink RX6 126 yX6_tick, Cond.instanceMethod yX6_tick, Cond.selects RX6 yX6_tick yX6_tick, Cond.code yX6_tick cX6_tick 7 (some .int), Cond.constantFloat RX6 123 (1075838976), Cond.constantFloat RX6 124 (1040187392), Cond.constantFloat RX6 125 (981668463), Cond.methodLink RX6 104 yX6_slotNow, Cond.instanceMethod yX6_slotNow, Cond.selects RX6 yX6_slotNow yX6_slotNow, Cond.code yX6_slotNow cX6_slotNow 2 (some .int), Cond.methodLink RX6 77 yX6_beginOf]
def wsX6_pass_r2 : List Cond := [Cond.instanceMethod yX6_beginOf, Cond.selects RX6 yX6_beginOf yX6_beginOf, Cond.code yX6_beginOf cX6_beginOf 4 (some .int), Cond.methodLink RX6 73 yX6_of, Cond.instanceMethod yX6_of, Cond.selects RX6 yX6_of yX6_of, Cond.code yX6_of cX6_of 3 (some .int), Cond.methodLink RX6 116 yX6_litNow, Cond.instanceMethod yX6_litNow, Cond.selects RX6 yX6_litNow yX6_litNow, Cond.code yX6_litNow cX6_litNow 3 (some .int), Cond.methodLink RX6 107 yX6_isDriven, Cond.instanceMethod yX6_isDriven, Cond.selects RX6 yX6_isDriven yX6_isDriven, Cond.code yX6_isDriven cX6_isDriven 3 (some .boolean), Cond.methodLink RX6 91 yX6_litPart, Cond.instanceMethod yX6_litPart, Cond.selects RX6 yX6_litPart yX6_litPart, Cond.code yX6_litPart cX6_litPart 2 (some .int), Cond.methodLink RX6 101 yX6_isOn, Cond.instanceMethod yX6_isOn, Cond.selects RX6 yX6_isOn yX6_isOn, Cond.code yX6_isOn cX6_isOn 3 (some .boolean), Cond.methodLink RX6 66 yX6_put]
def wsX6_pass_r3 : List Cond := [Cond.instanceMethod yX6_put, Cond.selects RX6 yX6_put yX6_put, Cond.code yX6_put cX6_put 4 none, Cond.methodLink RX6 119 yX6_light, Cond.instanceMethod yX6_light, Cond.selects RX6 yX6_light yX6_light, Cond.code yX6_light cX6_light 5 none, Cond.methodLink RX6 110 yX6_brighter, Cond.static yX6_brighter, Cond.code yX6_brighter cX6_brighter 3 (some .int), Cond.methodLink RX6 113 yX6_darker, Cond.instanceMethod yX6_darker, Cond.selects RX6 yX6_darker yX6_darker, Cond.code yX6_darker cX6_darker 3 (some .int), Cond.methodLink RX6 87 yX6_frameLength, Cond.instanceMethod yX6_frameLength, Cond.selects RX6 yX6_frameLength yX6_frameLength, Cond.code yX6_frameLength cX6_frameLength 1 (some .int), Cond.methodLink RX6 80 yX6_endFrame, Cond.instanceMethod yX6_endFrame, Cond.selects RX6 yX6_endFrame yX6_endFrame, Cond.code yX6_endFrame cX6_endFrame 1 none, Cond.methodLink RX6 62 yX6_done, Cond.instanceMethod yX6_done]
def wsX6_pass_r4 : List Cond := [Cond.selects RX6 yX6_done yX6_done, Cond.code yX6_done cX6_done 3 (some .int), Cond.fieldLink RX6 51 "ScannedDigitsModel" "kept" "I", Cond.fieldLink RX6 23 "ScannedDigitsModel" "history" "[I", Cond.fieldLink RX6 26 "ScannedDigitsModel" "historyFlow" "[F"]
def wsX6_pass : List Cond := .code yX6_pass cX6_pass 4 (some .int) :: ((wsX6_pass_r1 ++ (wsX6_pass_r2 ++ (wsX6_pass_r3 ++ wsX6_pass_r4))) ++ wsX60)
def wsX6_passFrames_r1 : List Cond := [Cond.fieldLink RX6 7 "ScannedDigitsModel" "row" "[I", Cond.methodLink RX6 55 yX6_in, Cond.static yX6_in, Cond.initialized RX6, Cond.code yX6_in cX6_in 3 (some .boolean), Cond.methodLink RX6 59 yX6_begin, Cond.instanceMethod yX6_begin, Cond.selects RX6 yX6_begin yX6_begin, Cond.code yX6_begin cX6_begin 2 none, Cond.fieldLink RX6 17 "ScannedDigitsModel" "scratch" "[I", Cond.fieldLink RX6 20 "ScannedDigitsModel" "scratchFlow" "[F", Cond.fieldLink RX6 13 "ScannedDigitsModel" "flow" "[F", Cond.methodLink RX6 126 yX6_tick, Cond.instanceMethod yX6_tick, Cond.selects RX6 yX6_tick yX6_tick, Cond.code yX6_tick cX6_tick 7 (some .int), Cond.constantFloat RX6 123 (1075838976), Cond.constantFloat RX6 124 (1040187392), Cond.constantFloat RX6 125 (981668463), Cond.methodLink RX6 104 yX6_slotNow, Cond.instanceMethod yX6_slotNow, Cond.selects RX6 yX6_slotNow yX6_slotNow, Cond.code yX6_slotNow cX6_slotNow 2 (some .int), Cond.methodLink RX6 77 yX6_beginOf]
def wsX6_passFrames_r2 : List Cond := [Cond.instanceMethod yX6_beginOf, Cond.selects RX6 yX6_beginOf yX6_beginOf, Cond.code yX6_beginOf cX6_beginOf 4 (some .int), Cond.methodLink RX6 73 yX6_of, Cond.instanceMethod yX6_of, Cond.selects RX6 yX6_of yX6_of, Cond.code yX6_of cX6_of 3 (some .int), Cond.methodLink RX6 116 yX6_litNow, Cond.instanceMethod yX6_litNow, Cond.selects RX6 yX6_litNow yX6_litNow, Cond.code yX6_litNow cX6_litNow 3 (some .int), Cond.methodLink RX6 107 yX6_isDriven, Cond.instanceMethod yX6_isDriven, Cond.selects RX6 yX6_isDriven yX6_isDriven, Cond.code yX6_isDriven cX6_isDriven 3 (some .boolean), Cond.methodLink RX6 91 yX6_litPart, Cond.instanceMethod yX6_litPart, Cond.selects RX6 yX6_litPart yX6_litPart, Cond.code yX6_litPart cX6_litPart 2 (some .int), Cond.methodLink RX6 101 yX6_isOn, Cond.instanceMethod yX6_isOn, Cond.selects RX6 yX6_isOn yX6_isOn, Cond.code yX6_isOn cX6_isOn 3 (some .boolean), Cond.methodLink RX6 66 yX6_put]
def wsX6_passFrames_r3 : List Cond := [Cond.instanceMethod yX6_put, Cond.selects RX6 yX6_put yX6_put, Cond.code yX6_put cX6_put 4 none, Cond.methodLink RX6 119 yX6_light, Cond.instanceMethod yX6_light, Cond.selects RX6 yX6_light yX6_light, Cond.code yX6_light cX6_light 5 none, Cond.methodLink RX6 110 yX6_brighter, Cond.static yX6_brighter, Cond.code yX6_brighter cX6_brighter 3 (some .int), Cond.methodLink RX6 113 yX6_darker, Cond.instanceMethod yX6_darker, Cond.selects RX6 yX6_darker yX6_darker, Cond.code yX6_darker cX6_darker 3 (some .int), Cond.methodLink RX6 87 yX6_frameLength, Cond.instanceMethod yX6_frameLength, Cond.selects RX6 yX6_frameLength yX6_frameLength, Cond.code yX6_frameLength cX6_frameLength 1 (some .int), Cond.methodLink RX6 80 yX6_endFrame, Cond.instanceMethod yX6_endFrame, Cond.selects RX6 yX6_endFrame yX6_endFrame, Cond.code yX6_endFrame cX6_endFrame 1 none, Cond.methodLink RX6 62 yX6_done, Cond.instanceMethod yX6_done]
def wsX6_passFrames_r4 : List Cond := [Cond.selects RX6 yX6_done yX6_done, Cond.code yX6_done cX6_done 3 (some .int), Cond.fieldLink RX6 51 "ScannedDigitsModel" "kept" "I", Cond.fieldLink RX6 23 "ScannedDigitsModel" "history" "[I", Cond.fieldLink RX6 26 "ScannedDigitsModel" "historyFlow" "[F"]
def wsX6_passFrames : List Cond := .code yX6_passFrames cX6_passFrames 4 (some .int) :: ((wsX6_passFrames_r1 ++ (wsX6_passFrames_r2 ++ (wsX6_passFrames_r3 ++ wsX6_passFrames_r4))) ++ wsX60)
def wsX6_type : List Cond := .code yX6_type cX6_type 2 (some .int) :: ([.fieldLink RX6 129 "ScannedDigitsModel" "typed" "I", .fieldLink RX6 39 "ScannedDigitsModel" "text" "[C"] ++ wsX60)
def wsX6_clearText : List Cond := .code yX6_clearText cX6_clearText 2 (some .int) :: ([.fieldLink RX6 129 "ScannedDigitsModel" "typed" "I"] ++ wsX60)
def wsX6_patternOf : List Cond := .code yX6_patternOf cX6_patternOf 1 (some .int) :: ([])
def wsX6_charOf : List Cond := .code yX6_charOf cX6_charOf 3 (some .int) :: ([.methodLink RX6 132 yX6_patternOf, .static yX6_patternOf, .initialized RX6, .code yX6_patternOf cX6_patternOf 1 (some .int)])
def wsX6_show_r1 : List Cond := [Cond.fieldLink RX6 129 "ScannedDigitsModel" "typed" "I", Cond.fieldLink RX6 39 "ScannedDigitsModel" "text" "[C", Cond.fieldLink RX6 7 "ScannedDigitsModel" "row" "[I", Cond.fieldLink RX6 43 "ScannedDigitsModel" "read" "[I", Cond.methodLink RX6 132 yX6_patternOf, Cond.static yX6_patternOf, Cond.initialized RX6, Cond.code yX6_patternOf cX6_patternOf 1 (some .int), Cond.methodLink RX6 59 yX6_begin, Cond.instanceMethod yX6_begin, Cond.selects RX6 yX6_begin yX6_begin, Cond.code yX6_begin cX6_begin 2 none, Cond.fieldLink RX6 17 "ScannedDigitsModel" "scratch" "[I", Cond.fieldLink RX6 20 "ScannedDigitsModel" "scratchFlow" "[F", Cond.fieldLink RX6 13 "ScannedDigitsModel" "flow" "[F", Cond.methodLink RX6 66 yX6_put, Cond.instanceMethod yX6_put, Cond.selects RX6 yX6_put yX6_put, Cond.code yX6_put cX6_put 4 none, Cond.methodLink RX6 62 yX6_done, Cond.instanceMethod yX6_done, Cond.selects RX6 yX6_done yX6_done, Cond.code yX6_done cX6_done 3 (some .int), Cond.fieldLink RX6 51 "ScannedDigitsModel" "kept" "I"]
def wsX6_show_r2 : List Cond := [Cond.fieldLink RX6 23 "ScannedDigitsModel" "history" "[I", Cond.fieldLink RX6 26 "ScannedDigitsModel" "historyFlow" "[F"]
def wsX6_show : List Cond := .code yX6_show cX6_show 6 (some .int) :: ((wsX6_show_r1 ++ wsX6_show_r2) ++ wsX60)
def wsX6_seenOf : List Cond := .code yX6_seenOf cX6_seenOf 4 (some .int) :: ([.fieldLink RX6 7 "ScannedDigitsModel" "row" "[I"] ++ wsX60)
def wsX6_glowOf : List Cond := .code yX6_glowOf cX6_glowOf 4 (some .int) :: ([.fieldLink RX6 7 "ScannedDigitsModel" "row" "[I"] ++ wsX60)
def wsX6_digit_r1 : List Cond := [Cond.fieldLink RX6 7 "ScannedDigitsModel" "row" "[I", Cond.methodLink RX6 83 yX6_noDigit, Cond.instanceMethod yX6_noDigit, Cond.selects RX6 yX6_noDigit yX6_noDigit, Cond.initialized RX6, Cond.code yX6_noDigit cX6_noDigit 2 (some .boolean), Cond.methodLink RX6 55 yX6_in, Cond.static yX6_in, Cond.code yX6_in cX6_in 3 (some .boolean), Cond.methodLink RX6 73 yX6_of, Cond.instanceMethod yX6_of, Cond.selects RX6 yX6_of yX6_of, Cond.code yX6_of cX6_of 3 (some .int), Cond.methodLink RX6 91 yX6_litPart, Cond.instanceMethod yX6_litPart, Cond.selects RX6 yX6_litPart yX6_litPart, Cond.code yX6_litPart cX6_litPart 2 (some .int), Cond.methodLink RX6 77 yX6_beginOf, Cond.instanceMethod yX6_beginOf, Cond.selects RX6 yX6_beginOf yX6_beginOf, Cond.code yX6_beginOf cX6_beginOf 4 (some .int), Cond.methodLink RX6 136 yX6_seenOf, Cond.instanceMethod yX6_seenOf, Cond.selects RX6 yX6_seenOf yX6_seenOf]
def wsX6_digit_r2 : List Cond := [Cond.code yX6_seenOf cX6_seenOf 4 (some .int), Cond.methodLink RX6 139 yX6_glowOf, Cond.instanceMethod yX6_glowOf, Cond.selects RX6 yX6_glowOf yX6_glowOf, Cond.code yX6_glowOf cX6_glowOf 4 (some .int), Cond.methodLink RX6 142 yX6_charOf, Cond.instanceMethod yX6_charOf, Cond.selects RX6 yX6_charOf yX6_charOf, Cond.code yX6_charOf cX6_charOf 3 (some .int), Cond.methodLink RX6 132 yX6_patternOf, Cond.static yX6_patternOf, Cond.code yX6_patternOf cX6_patternOf 1 (some .int)]
def wsX6_digit : List Cond := .code yX6_digit cX6_digit 3 (some .int) :: ((wsX6_digit_r1 ++ wsX6_digit_r2) ++ wsX60)
def wsX6_segment : List Cond := .code yX6_segment cX6_segment 4 (some .int) :: ([.fieldLink RX6 7 "ScannedDigitsModel" "row" "[I", .methodLink RX6 83 yX6_noDigit, .instanceMethod yX6_noDigit, .selects RX6 yX6_noDigit yX6_noDigit, .initialized RX6, .code yX6_noDigit cX6_noDigit 2 (some .boolean), .methodLink RX6 55 yX6_in, .static yX6_in, .code yX6_in cX6_in 3 (some .boolean), .methodLink RX6 136 yX6_seenOf, .instanceMethod yX6_seenOf, .selects RX6 yX6_seenOf yX6_seenOf, .code yX6_seenOf cX6_seenOf 4 (some .int)] ++ wsX60)
def wsX6_litIn_r1 : List Cond := [Cond.methodLink RX6 83 yX6_noDigit, Cond.instanceMethod yX6_noDigit, Cond.selects RX6 yX6_noDigit yX6_noDigit, Cond.initialized RX6, Cond.code yX6_noDigit cX6_noDigit 2 (some .boolean), Cond.fieldLink RX6 7 "ScannedDigitsModel" "row" "[I", Cond.methodLink RX6 55 yX6_in, Cond.static yX6_in, Cond.code yX6_in cX6_in 3 (some .boolean), Cond.methodLink RX6 59 yX6_begin, Cond.instanceMethod yX6_begin, Cond.selects RX6 yX6_begin yX6_begin, Cond.code yX6_begin cX6_begin 2 none, Cond.fieldLink RX6 17 "ScannedDigitsModel" "scratch" "[I", Cond.fieldLink RX6 20 "ScannedDigitsModel" "scratchFlow" "[F", Cond.fieldLink RX6 13 "ScannedDigitsModel" "flow" "[F", Cond.methodLink RX6 126 yX6_tick, Cond.instanceMethod yX6_tick, Cond.selects RX6 yX6_tick yX6_tick, Cond.code yX6_tick cX6_tick 7 (some .int), Cond.constantFloat RX6 123 (1075838976), Cond.constantFloat RX6 124 (1040187392), Cond.constantFloat RX6 125 (981668463), Cond.methodLink RX6 104 yX6_slotNow]
def wsX6_litIn_r2 : List Cond := [Cond.instanceMethod yX6_slotNow, Cond.selects RX6 yX6_slotNow yX6_slotNow, Cond.code yX6_slotNow cX6_slotNow 2 (some .int), Cond.methodLink RX6 77 yX6_beginOf, Cond.instanceMethod yX6_beginOf, Cond.selects RX6 yX6_beginOf yX6_beginOf, Cond.code yX6_beginOf cX6_beginOf 4 (some .int), Cond.methodLink RX6 73 yX6_of, Cond.instanceMethod yX6_of, Cond.selects RX6 yX6_of yX6_of, Cond.code yX6_of cX6_of 3 (some .int), Cond.methodLink RX6 116 yX6_litNow, Cond.instanceMethod yX6_litNow, Cond.selects RX6 yX6_litNow yX6_litNow, Cond.code yX6_litNow cX6_litNow 3 (some .int), Cond.methodLink RX6 107 yX6_isDriven, Cond.instanceMethod yX6_isDriven, Cond.selects RX6 yX6_isDriven yX6_isDriven, Cond.code yX6_isDriven cX6_isDriven 3 (some .boolean), Cond.methodLink RX6 91 yX6_litPart, Cond.instanceMethod yX6_litPart, Cond.selects RX6 yX6_litPart yX6_litPart, Cond.code yX6_litPart cX6_litPart 2 (some .int), Cond.methodLink RX6 101 yX6_isOn]
def wsX6_litIn_r3 : List Cond := [Cond.instanceMethod yX6_isOn, Cond.selects RX6 yX6_isOn yX6_isOn, Cond.code yX6_isOn cX6_isOn 3 (some .boolean), Cond.methodLink RX6 66 yX6_put, Cond.instanceMethod yX6_put, Cond.selects RX6 yX6_put yX6_put, Cond.code yX6_put cX6_put 4 none, Cond.methodLink RX6 119 yX6_light, Cond.instanceMethod yX6_light, Cond.selects RX6 yX6_light yX6_light, Cond.code yX6_light cX6_light 5 none, Cond.methodLink RX6 110 yX6_brighter, Cond.static yX6_brighter, Cond.code yX6_brighter cX6_brighter 3 (some .int), Cond.methodLink RX6 113 yX6_darker, Cond.instanceMethod yX6_darker, Cond.selects RX6 yX6_darker yX6_darker, Cond.code yX6_darker cX6_darker 3 (some .int), Cond.methodLink RX6 87 yX6_frameLength, Cond.instanceMethod yX6_frameLength, Cond.selects RX6 yX6_frameLength yX6_frameLength, Cond.code yX6_frameLength cX6_frameLength 1 (some .int), Cond.methodLink RX6 80 yX6_endFrame, Cond.instanceMethod yX6_endFrame]
def wsX6_litIn_r4 : List Cond := [Cond.selects RX6 yX6_endFrame yX6_endFrame, Cond.code yX6_endFrame cX6_endFrame 1 none, Cond.methodLink RX6 145 yX6_goBack, Cond.instanceMethod yX6_goBack, Cond.selects RX6 yX6_goBack yX6_goBack, Cond.code yX6_goBack cX6_goBack 2 none]
def wsX6_litIn : List Cond := .code yX6_litIn cX6_litIn 5 (some .int) :: ((wsX6_litIn_r1 ++ (wsX6_litIn_r2 ++ (wsX6_litIn_r3 ++ wsX6_litIn_r4))) ++ wsX60)
def wsX6_steadyGlow_r1 : List Cond := [Cond.methodLink RX6 83 yX6_noDigit, Cond.instanceMethod yX6_noDigit, Cond.selects RX6 yX6_noDigit yX6_noDigit, Cond.initialized RX6, Cond.code yX6_noDigit cX6_noDigit 2 (some .boolean), Cond.fieldLink RX6 7 "ScannedDigitsModel" "row" "[I", Cond.methodLink RX6 55 yX6_in, Cond.static yX6_in, Cond.code yX6_in cX6_in 3 (some .boolean), Cond.methodLink RX6 91 yX6_litPart, Cond.instanceMethod yX6_litPart, Cond.selects RX6 yX6_litPart yX6_litPart, Cond.code yX6_litPart cX6_litPart 2 (some .int), Cond.methodLink RX6 73 yX6_of, Cond.instanceMethod yX6_of, Cond.selects RX6 yX6_of yX6_of, Cond.code yX6_of cX6_of 3 (some .int), Cond.methodLink RX6 87 yX6_frameLength, Cond.instanceMethod yX6_frameLength, Cond.selects RX6 yX6_frameLength yX6_frameLength, Cond.code yX6_frameLength cX6_frameLength 1 (some .int), Cond.methodLink RX6 77 yX6_beginOf, Cond.instanceMethod yX6_beginOf, Cond.selects RX6 yX6_beginOf yX6_beginOf]
def wsX6_steadyGlow_r2 : List Cond := [Cond.code yX6_beginOf cX6_beginOf 4 (some .int), Cond.methodLink RX6 110 yX6_brighter, Cond.static yX6_brighter, Cond.code yX6_brighter cX6_brighter 3 (some .int), Cond.methodLink RX6 113 yX6_darker, Cond.instanceMethod yX6_darker, Cond.selects RX6 yX6_darker yX6_darker, Cond.code yX6_darker cX6_darker 3 (some .int)]
def wsX6_steadyGlow : List Cond := .code yX6_steadyGlow cX6_steadyGlow 8 (some .int) :: ((wsX6_steadyGlow_r1 ++ wsX6_steadyGlow_r2) ++ wsX60)
def wsX6_current : List Cond := .code yX6_current cX6_current 2 (some .float) :: ([.fieldLink RX6 13 "ScannedDigitsModel" "flow" "[F", .methodLink RX6 55 yX6_in, .static yX6_in, .initialized RX6, .code yX6_in cX6_in 3 (some .boolean)] ++ wsX60)
def wsX6_thousandths : List Cond := .code yX6_thousandths cX6_thousandths 2 (some .int) :: ([.fieldLink RX6 13 "ScannedDigitsModel" "flow" "[F", .constantFloat RX6 148 (1148846080), .methodLink RX6 55 yX6_in, .static yX6_in, .initialized RX6, .code yX6_in cX6_in 3 (some .boolean)] ++ wsX60)
def wsX6_duty : List Cond := .code yX6_duty cX6_duty 2 (some .float) :: ([.fieldLink RX6 7 "ScannedDigitsModel" "row" "[I", .methodLink RX6 83 yX6_noDigit, .instanceMethod yX6_noDigit, .selects RX6 yX6_noDigit yX6_noDigit, .initialized RX6, .code yX6_noDigit cX6_noDigit 2 (some .boolean), .methodLink RX6 55 yX6_in, .static yX6_in, .code yX6_in cX6_in 3 (some .boolean), .methodLink RX6 73 yX6_of, .instanceMethod yX6_of, .selects RX6 yX6_of yX6_of, .code yX6_of cX6_of 3 (some .int)] ++ wsX60)
def wsX6_broken : List Cond := .code yX6_broken cX6_broken 3 (some .int) :: ([.fieldLink RX6 7 "ScannedDigitsModel" "row" "[I", .methodLink RX6 98 yX6_brokenOf, .instanceMethod yX6_brokenOf, .selects RX6 yX6_brokenOf yX6_brokenOf, .initialized RX6, .code yX6_brokenOf cX6_brokenOf 4 (some .int)] ++ wsX60)
def wsX6_count_r1 : List Cond := [Cond.fieldLink RX6 7 "ScannedDigitsModel" "row" "[I", Cond.fieldLink RX6 51 "ScannedDigitsModel" "kept" "I", Cond.fieldLink RX6 129 "ScannedDigitsModel" "typed" "I", Cond.methodLink RX6 87 yX6_frameLength, Cond.instanceMethod yX6_frameLength, Cond.selects RX6 yX6_frameLength yX6_frameLength, Cond.initialized RX6, Cond.code yX6_frameLength cX6_frameLength 1 (some .int), Cond.methodLink RX6 77 yX6_beginOf, Cond.instanceMethod yX6_beginOf, Cond.selects RX6 yX6_beginOf yX6_beginOf, Cond.code yX6_beginOf cX6_beginOf 4 (some .int), Cond.methodLink RX6 73 yX6_of, Cond.instanceMethod yX6_of, Cond.selects RX6 yX6_of yX6_of, Cond.code yX6_of cX6_of 3 (some .int), Cond.methodLink RX6 104 yX6_slotNow, Cond.instanceMethod yX6_slotNow, Cond.selects RX6 yX6_slotNow yX6_slotNow, Cond.code yX6_slotNow cX6_slotNow 2 (some .int), Cond.methodLink RX6 149 yX6_broken, Cond.instanceMethod yX6_broken, Cond.selects RX6 yX6_broken yX6_broken, Cond.code yX6_broken cX6_broken 3 (some .int)]
def wsX6_count_r2 : List Cond := [Cond.methodLink RX6 98 yX6_brokenOf, Cond.instanceMethod yX6_brokenOf, Cond.selects RX6 yX6_brokenOf yX6_brokenOf, Cond.code yX6_brokenOf cX6_brokenOf 4 (some .int)]
def wsX6_count : List Cond := .code yX6_count cX6_count 2 (some .int) :: ((wsX6_count_r1 ++ wsX6_count_r2) ++ wsX60)
def wsX6_group : List Cond := .code yX6_group cX6_group 3 (some .int) :: ([.fieldLink RX6 7 "ScannedDigitsModel" "row" "[I", .methodLink RX6 55 yX6_in, .static yX6_in, .initialized RX6, .code yX6_in cX6_in 3 (some .boolean), .methodLink RX6 101 yX6_isOn, .instanceMethod yX6_isOn, .selects RX6 yX6_isOn yX6_isOn, .code yX6_isOn cX6_isOn 3 (some .boolean), .methodLink RX6 94 yX6_digitsIn, .instanceMethod yX6_digitsIn, .selects RX6 yX6_digitsIn yX6_digitsIn, .code yX6_digitsIn cX6_digitsIn 4 (some .int), .methodLink RX6 73 yX6_of, .instanceMethod yX6_of, .selects RX6 yX6_of yX6_of, .code yX6_of cX6_of 3 (some .int)] ++ wsX60)
def wsJ9_max_7cf53 : List Cond := .code yJ9_max_7cf53 cJ9_max_7cf53 2 (some .int) :: ([])
def wsJ9_min_7cf53 : List Cond := .code yJ9_min_7cf53 cJ9_min_7cf53 2 (some .int) :: ([])
def wsL_law_r1 : List Cond := [Cond.classLink RL 7 RX5, Cond.instantiable RX5 5, Cond.initialized RX5, Cond.classLink RL 10 RX6, Cond.instantiable RX6 13, Cond.initialized RX6, Cond.methodLink RL 9 yX5_init, Cond.instanceMethod yX5_init, Cond.code yX5_init cX5_init 2 none, Cond.methodLink RX5 1 objectInit, Cond.instanceMethod objectInit, Cond.code objectInit ⟨#[0xb1]⟩ 1 none, Cond.classLink RX5 7 RX3, Cond.instantiable RX3 13, Cond.initialized RX3, Cond.fieldLink RX5 10 "ScannedDigits" "now" "LScannedDigits$State;", Cond.fieldLink RX5 16 "ScannedDigits" "future" "LScannedDigits$State;", Cond.classLink RX5 19 RX1, Cond.instantiable RX1 3, Cond.initialized RX1, Cond.fieldLink RX5 22 "ScannedDigits" "history" "LScannedDigits$History;", Cond.classLink RX5 26 RX2, Cond.fieldLink RX5 28 "ScannedDigits" "snapshots" "[LScannedDigits$Snapshot;", Cond.classLink RX5 32 RX4]
def wsL_law_r2 : List Cond := [Cond.instantiable RX4 4, Cond.initialized RX4, Cond.fieldLink RX5 35 "ScannedDigits" "text" "LScannedDigits$Text;", Cond.instantiable RX2 2, Cond.initialized RX2, Cond.methodLink RX5 9 yX3_init, Cond.instanceMethod yX3_init, Cond.code yX3_init cX3_init 2 none, Cond.methodLink RX3 3 objectInit, Cond.classLink RX3 9 RX0, Cond.fieldLink RX3 11 "ScannedDigits$State" "digits" "[LScannedDigits$Digit;", Cond.fieldLink RX3 17 "ScannedDigits$State" "digitCount" "I", Cond.arrayClass .int, Cond.fieldLink RX3 21 "ScannedDigits$State" "on" "[I", Cond.fieldLink RX3 25 "ScannedDigits$State" "off" "[I", Cond.methodLink RX3 31 ⟨"[I", "clone", "()Ljava/lang/Object;"⟩, Cond.sameMethod "[I" "java/lang/Object" "clone" "()Ljava/lang/Object;", Cond.native ⟨"java/lang/Object", "clone", "()Ljava/lang/Object;"⟩, Cond.instanceMethod ⟨"java/lang/Object", "clone", "()Ljava/lang/Object;"⟩, Cond.selects "[I" ⟨"[I", "clone", "()Ljava/lang/Object;"⟩ ⟨"java/lang/Object", "clone", "()Ljava/lang/Object;"⟩, Cond.classLink RX3 32 "[I", Cond.fieldLink RX3 36 "ScannedDigits$State" "settings" "[I", Cond.instantiable RX0 9, Cond.initialized RX0]
def wsL_law_r3 : List Cond := [Cond.methodLink RX3 39 yX0_init, Cond.instanceMethod yX0_init, Cond.code yX0_init cX0_init 1 none, Cond.methodLink RX0 3 objectInit, Cond.fieldLink RX0 9 "ScannedDigits$Digit" "glow" "[I", Cond.fieldLink RX0 15 "ScannedDigits$Digit" "use" "[I", Cond.methodLink RX0 18 yX0_makeNew, Cond.instanceMethod yX0_makeNew, Cond.selects RX0 yX0_makeNew yX0_makeNew, Cond.code yX0_makeNew cX0_makeNew 1 none, Cond.fieldLink RX0 21 "ScannedDigits$Digit" "width" "I", Cond.fieldLink RX0 25 "ScannedDigits$Digit" "guard" "I", Cond.fieldLink RX0 28 "ScannedDigits$Digit" "brightness" "I", Cond.fieldLink RX0 31 "ScannedDigits$Digit" "pattern" "I", Cond.fieldLink RX0 34 "ScannedDigits$Digit" "group" "I", Cond.fieldLink RX0 37 "ScannedDigits$Digit" "drivenTicks" "I", Cond.methodLink RX0 40 yX0_renewSegments, Cond.instanceMethod yX0_renewSegments, Cond.selects RX0 yX0_renewSegments yX0_renewSegments, Cond.code yX0_renewSegments cX0_renewSegments 2 none, Cond.fieldLink RX0 43 "ScannedDigits$Digit" "broken" "I", Cond.methodLink RX5 21 yX1_init, Cond.instanceMethod yX1_init, Cond.code yX1_init cX1_init 2 none]
def wsL_law_r4 : List Cond := [Cond.methodLink RX1 3 objectInit, Cond.classLink RX1 9 RX3, Cond.fieldLink RX1 11 "ScannedDigits$History" "rows" "[LScannedDigits$State;", Cond.methodLink RX1 17 yX3_init, Cond.instanceMethod yX4_init, Cond.code yX4_init cX4_init 1 none, Cond.methodLink RX4 3 objectInit, Cond.arrayClass .char, Cond.fieldLink RX4 9 "ScannedDigits$Text" "characters" "[C", Cond.fieldLink RX4 15 "ScannedDigits$Text" "patterns" "[I", Cond.instanceMethod yX2_init, Cond.code yX2_init cX2_init 1 none, Cond.methodLink RX2 1 objectInit, Cond.classLink RX2 7 RX3, Cond.fieldLink RX2 10 "ScannedDigits$Snapshot" "state" "LScannedDigits$State;", Cond.methodLink RX2 9 yX3_init, Cond.methodLink RL 12 yX6_init, Cond.instanceMethod yX6_init, Cond.code yX6_init cX6_init 2 none, Cond.methodLink RX6 1 objectInit, Cond.fieldLink RX6 7 "ScannedDigitsModel" "row" "[I", Cond.arrayClass .float, Cond.fieldLink RX6 13 "ScannedDigitsModel" "flow" "[F", Cond.fieldLink RX6 17 "ScannedDigitsModel" "scratch" "[I"]
def wsL_law_r5 : List Cond := [Cond.fieldLink RX6 20 "ScannedDigitsModel" "scratchFlow" "[F", Cond.fieldLink RX6 23 "ScannedDigitsModel" "history" "[I", Cond.fieldLink RX6 26 "ScannedDigitsModel" "historyFlow" "[F", Cond.fieldLink RX6 29 "ScannedDigitsModel" "slots" "[I", Cond.fieldLink RX6 32 "ScannedDigitsModel" "slotFlow" "[F", Cond.arrayClass .boolean, Cond.fieldLink RX6 35 "ScannedDigitsModel" "isKept" "[Z", Cond.fieldLink RX6 39 "ScannedDigitsModel" "text" "[C", Cond.fieldLink RX6 43 "ScannedDigitsModel" "read" "[I", Cond.constant RX6 46 (100000), Cond.methodLink RX6 47 yX6_begins, Cond.instanceMethod yX6_begins, Cond.selects RX6 yX6_begins yX6_begins, Cond.code yX6_begins cX6_begins 2 none, Cond.methodLink RX6 66 yX6_put, Cond.instanceMethod yX6_put, Cond.selects RX6 yX6_put yX6_put, Cond.code yX6_put cX6_put 4 none, Cond.methodLink RX6 70 yX6_renew, Cond.instanceMethod yX6_renew, Cond.selects RX6 yX6_renew yX6_renew, Cond.code yX6_renew cX6_renew 3 none, Cond.methodLink RL 13 yX5_setDigits, Cond.instanceMethod yX5_setDigits]
def wsL_law_r6 : List Cond := [Cond.selects RX5 yX5_setDigits yX5_setDigits, Cond.code yX5_setDigits cX5_setDigits 3 (some .int), Cond.fieldLink RX5 48 "ScannedDigits$State" "digitCount" "I", Cond.methodLink RX5 40 yX5_isWithin, Cond.static yX5_isWithin, Cond.code yX5_isWithin cX5_isWithin 3 (some .boolean), Cond.methodLink RX5 44 yX1_record, Cond.instanceMethod yX1_record, Cond.selects RX1 yX1_record yX1_record, Cond.code yX1_record cX1_record 2 none, Cond.fieldLink RX1 18 "ScannedDigits$History" "next" "I", Cond.fieldLink RX1 26 "ScannedDigits$History" "size" "I", Cond.methodLink RX1 29 Lib.Math.min.name, Cond.static Lib.Math.min.name, Cond.initialized "java/lang/Math", Cond.code Lib.Math.min.name Lib.Math.min.code 2 (some .int), Cond.methodLink RX1 22 yX3_copyFrom, Cond.instanceMethod yX3_copyFrom, Cond.selects RX3 yX3_copyFrom yX3_copyFrom, Cond.code yX3_copyFrom cX3_copyFrom 3 none, Cond.methodLink RX3 44 arraycopyName, Cond.native arraycopyName, Cond.static arraycopyName, Cond.initialized "java/lang/System"]
def wsL_law_r7 : List Cond := [Cond.fieldLink RX3 50 "ScannedDigits$State" "time" "I", Cond.fieldLink RX3 53 "ScannedDigits$State" "frame" "I", Cond.fieldLink RX3 56 "ScannedDigits$State" "frameTicks" "I", Cond.fieldLink RX3 59 "ScannedDigits$State" "testFrames" "I", Cond.fieldLink RX3 62 "ScannedDigits$State" "drivenTicks" "I", Cond.fieldLink RX3 65 "ScannedDigits$State" "current" "F", Cond.fieldLink RX3 69 "ScannedDigits$State" "peak" "F", Cond.fieldLink RX3 72 "ScannedDigits$State" "charge" "F", Cond.methodLink RX3 40 yX0_copyFrom, Cond.instanceMethod yX0_copyFrom, Cond.selects RX0 yX0_copyFrom yX0_copyFrom, Cond.code yX0_copyFrom cX0_copyFrom 2 none, Cond.methodLink RX0 46 arraycopyName, Cond.methodLink RX5 52 yX3_changeDigitCount, Cond.instanceMethod yX3_changeDigitCount, Cond.selects RX3 yX3_changeDigitCount yX3_changeDigitCount, Cond.code yX3_changeDigitCount cX3_changeDigitCount 3 none, Cond.methodLink RX3 79 yX0_makeNew, Cond.methodLink RX3 82 yX3_beginFrame, Cond.instanceMethod yX3_beginFrame, Cond.selects RX3 yX3_beginFrame yX3_beginFrame, Cond.code yX3_beginFrame cX3_beginFrame 1 none, Cond.methodLink RL 17 yX6_setDigits, Cond.instanceMethod yX6_setDigits]
def wsL_law_r8 : List Cond := [Cond.selects RX6 yX6_setDigits yX6_setDigits, Cond.code yX6_setDigits cX6_setDigits 4 (some .int), Cond.methodLink RX6 55 yX6_in, Cond.static yX6_in, Cond.code yX6_in cX6_in 3 (some .boolean), Cond.methodLink RX6 59 yX6_begin, Cond.instanceMethod yX6_begin, Cond.selects RX6 yX6_begin yX6_begin, Cond.code yX6_begin cX6_begin 2 none, Cond.methodLink RX6 80 yX6_endFrame, Cond.instanceMethod yX6_endFrame, Cond.selects RX6 yX6_endFrame yX6_endFrame, Cond.code yX6_endFrame cX6_endFrame 1 none, Cond.methodLink RX6 62 yX6_done, Cond.instanceMethod yX6_done, Cond.selects RX6 yX6_done yX6_done, Cond.code yX6_done cX6_done 3 (some .int), Cond.fieldLink RX6 51 "ScannedDigitsModel" "kept" "I", Cond.methodLink RL 18 yX5_setWidth, Cond.instanceMethod yX5_setWidth, Cond.selects RX5 yX5_setWidth yX5_setWidth, Cond.code yX5_setWidth cX5_setWidth 4 (some .int), Cond.methodLink RX5 56 yX3_find, Cond.instanceMethod yX3_find]
def wsL_law_r9 : List Cond := [Cond.selects RX3 yX3_find yX3_find, Cond.code yX3_find cX3_find 2 (some (.object "ScannedDigits$Digit")), Cond.methodLink RX5 60 yX3_changeWidth, Cond.instanceMethod yX3_changeWidth, Cond.selects RX3 yX3_changeWidth yX3_changeWidth, Cond.code yX3_changeWidth cX3_changeWidth 3 none, Cond.fieldLink RX3 85 "ScannedDigits$Digit" "width" "I", Cond.methodLink RX5 64 yX3_frameLength, Cond.instanceMethod yX3_frameLength, Cond.selects RX3 yX3_frameLength yX3_frameLength, Cond.code yX3_frameLength cX3_frameLength 1 (some .int), Cond.methodLink RX3 91 yX3_slotStart, Cond.instanceMethod yX3_slotStart, Cond.selects RX3 yX3_slotStart yX3_slotStart, Cond.code yX3_slotStart cX3_slotStart 4 (some .int), Cond.methodLink RL 22 yX6_setWidth, Cond.instanceMethod yX6_setWidth, Cond.selects RX6 yX6_setWidth yX6_setWidth, Cond.code yX6_setWidth cX6_setWidth 4 (some .int), Cond.methodLink RX6 83 yX6_noDigit, Cond.instanceMethod yX6_noDigit, Cond.selects RX6 yX6_noDigit yX6_noDigit, Cond.code yX6_noDigit cX6_noDigit 2 (some .boolean), Cond.methodLink RX6 73 yX6_of]
def wsL_law_r10 : List Cond := [Cond.instanceMethod yX6_of, Cond.selects RX6 yX6_of yX6_of, Cond.code yX6_of cX6_of 3 (some .int), Cond.methodLink RX6 87 yX6_frameLength, Cond.instanceMethod yX6_frameLength, Cond.selects RX6 yX6_frameLength yX6_frameLength, Cond.code yX6_frameLength cX6_frameLength 1 (some .int), Cond.methodLink RX6 77 yX6_beginOf, Cond.instanceMethod yX6_beginOf, Cond.selects RX6 yX6_beginOf yX6_beginOf, Cond.code yX6_beginOf cX6_beginOf 4 (some .int), Cond.methodLink RL 23 yX5_setGuard, Cond.instanceMethod yX5_setGuard, Cond.selects RX5 yX5_setGuard yX5_setGuard, Cond.code yX5_setGuard cX5_setGuard 4 (some .int), Cond.fieldLink RX5 68 "ScannedDigits$Digit" "guard" "I", Cond.methodLink RX5 73 yX0_litPart, Cond.instanceMethod yX0_litPart, Cond.selects RX0 yX0_litPart yX0_litPart, Cond.code yX0_litPart cX0_litPart 1 (some .int), Cond.methodLink RX0 52 yX0_litPartAt, Cond.instanceMethod yX0_litPartAt, Cond.selects RX0 yX0_litPartAt yX0_litPartAt, Cond.code yX0_litPartAt cX0_litPartAt 2 (some .int)]
def wsL_law_r11 : List Cond := [Cond.methodLink RL 26 yX6_setGuard, Cond.instanceMethod yX6_setGuard, Cond.selects RX6 yX6_setGuard yX6_setGuard, Cond.code yX6_setGuard cX6_setGuard 3 (some .int), Cond.methodLink RX6 91 yX6_litPart, Cond.instanceMethod yX6_litPart, Cond.selects RX6 yX6_litPart yX6_litPart, Cond.code yX6_litPart cX6_litPart 2 (some .int), Cond.methodLink RL 27 yX5_setBrightness, Cond.instanceMethod yX5_setBrightness, Cond.selects RX5 yX5_setBrightness yX5_setBrightness, Cond.code yX5_setBrightness cX5_setBrightness 4 (some .int), Cond.fieldLink RX5 76 "ScannedDigits$Digit" "brightness" "I", Cond.methodLink RL 30 yX6_setBrightness, Cond.instanceMethod yX6_setBrightness, Cond.selects RX6 yX6_setBrightness yX6_setBrightness, Cond.code yX6_setBrightness cX6_setBrightness 3 (some .int), Cond.methodLink RL 31 yX5_setPattern, Cond.instanceMethod yX5_setPattern, Cond.selects RX5 yX5_setPattern yX5_setPattern, Cond.code yX5_setPattern cX5_setPattern 5 (some .int), Cond.fieldLink RX5 79 "ScannedDigits$Digit" "pattern" "I", Cond.methodLink RL 34 yX6_setPattern, Cond.instanceMethod yX6_setPattern]
def wsL_law_r12 : List Cond := [Cond.selects RX6 yX6_setPattern yX6_setPattern, Cond.code yX6_setPattern cX6_setPattern 4 (some .int), Cond.methodLink RL 35 yX5_setGroup, Cond.instanceMethod yX5_setGroup, Cond.selects RX5 yX5_setGroup yX5_setGroup, Cond.code yX5_setGroup cX5_setGroup 5 (some .int), Cond.fieldLink RX5 82 "ScannedDigits$Digit" "group" "I", Cond.methodLink RL 38 yX6_setGroup, Cond.instanceMethod yX6_setGroup, Cond.selects RX6 yX6_setGroup yX6_setGroup, Cond.code yX6_setGroup cX6_setGroup 4 (some .int), Cond.methodLink RL 39 yX5_setBlink, Cond.instanceMethod yX5_setBlink, Cond.selects RX5 yX5_setBlink yX5_setBlink, Cond.code yX5_setBlink cX5_setBlink 4 (some .int), Cond.fieldLink RX5 85 "ScannedDigits$State" "on" "[I", Cond.fieldLink RX5 89 "ScannedDigits$State" "off" "[I", Cond.methodLink RX5 92 yX3_digitsInGroup, Cond.instanceMethod yX3_digitsInGroup, Cond.selects RX3 yX3_digitsInGroup yX3_digitsInGroup, Cond.code yX3_digitsInGroup cX3_digitsInGroup 4 (some .int), Cond.fieldLink RX3 95 "ScannedDigits$Digit" "group" "I", Cond.methodLink RL 43 yX6_setBlink, Cond.instanceMethod yX6_setBlink]
def wsL_law_r13 : List Cond := [Cond.selects RX6 yX6_setBlink yX6_setBlink, Cond.code yX6_setBlink cX6_setBlink 4 (some .int), Cond.methodLink RX6 94 yX6_digitsIn, Cond.instanceMethod yX6_digitsIn, Cond.selects RX6 yX6_digitsIn yX6_digitsIn, Cond.code yX6_digitsIn cX6_digitsIn 4 (some .int), Cond.methodLink RL 44 yX5_set, Cond.instanceMethod yX5_set, Cond.selects RX5 yX5_set yX5_set, Cond.code yX5_set cX5_set 4 (some .int), Cond.fieldLink RX5 96 "ScannedDigits" "LEAST_SETTINGS" "[I", Cond.fieldLink RX5 99 "ScannedDigits" "MOST_SETTINGS" "[I", Cond.fieldLink RX5 102 "ScannedDigits$State" "settings" "[I", Cond.methodLink RL 47 yX6_set, Cond.instanceMethod yX6_set, Cond.selects RX6 yX6_set yX6_set, Cond.code yX6_set cX6_set 4 (some .int), Cond.constant RX6 97 (1000000), Cond.methodLink RL 48 yX5_replace, Cond.instanceMethod yX5_replace, Cond.selects RX5 yX5_replace yX5_replace, Cond.code yX5_replace cX5_replace 4 (some .int), Cond.fieldLink RX5 105 "ScannedDigits$Digit" "broken" "I", Cond.methodLink RX5 108 yJ6_bitCount_0f7a4]
def wsL_law_r14 : List Cond := [Cond.static yJ6_bitCount_0f7a4, Cond.initialized RJ6, Cond.code yJ6_bitCount_0f7a4 cJ6_bitCount_0f7a4 1 (some .int), Cond.constant RJ6 265 (1431655765), Cond.constant RJ6 266 (858993459), Cond.constant RJ6 267 (252645135), Cond.methodLink RX5 113 yX0_renewSegments, Cond.methodLink RL 51 yX6_replace, Cond.instanceMethod yX6_replace, Cond.selects RX6 yX6_replace yX6_replace, Cond.code yX6_replace cX6_replace 3 (some .int), Cond.methodLink RX6 98 yX6_brokenOf, Cond.instanceMethod yX6_brokenOf, Cond.selects RX6 yX6_brokenOf yX6_brokenOf, Cond.code yX6_brokenOf cX6_brokenOf 4 (some .int), Cond.methodLink RL 52 yX5_test, Cond.instanceMethod yX5_test, Cond.selects RX5 yX5_test yX5_test, Cond.code yX5_test cX5_test 3 (some .int), Cond.fieldLink RX5 116 "ScannedDigits$State" "testFrames" "I", Cond.methodLink RL 55 yX6_test, Cond.instanceMethod yX6_test, Cond.selects RX6 yX6_test yX6_test, Cond.code yX6_test cX6_test 3 (some .int)]
def wsL_law_r15 : List Cond := [Cond.methodLink RL 56 yX5_pass, Cond.instanceMethod yX5_pass, Cond.selects RX5 yX5_pass yX5_pass, Cond.code yX5_pass cX5_pass 2 (some .int), Cond.methodLink RX5 119 yX3_runTicks, Cond.instanceMethod yX3_runTicks, Cond.selects RX3 yX3_runTicks yX3_runTicks, Cond.code yX3_runTicks cX3_runTicks 4 (some .int), Cond.methodLink RX3 123 yX3_runTick, Cond.instanceMethod yX3_runTick, Cond.selects RX3 yX3_runTick yX3_runTick, Cond.code yX3_runTick cX3_runTick 4 (some .int), Cond.fieldLink RX3 129 "ScannedDigits$Digit" "drivenTicks" "I", Cond.methodLink RX3 116 yX3_slotNow, Cond.instanceMethod yX3_slotNow, Cond.selects RX3 yX3_slotNow yX3_slotNow, Cond.code yX3_slotNow cX3_slotNow 3 (some .int), Cond.methodLink RX3 126 yX3_litNext, Cond.instanceMethod yX3_litNext, Cond.selects RX3 yX3_litNext yX3_litNext, Cond.code yX3_litNext cX3_litNext 3 (some .int), Cond.fieldLink RX3 88 "ScannedDigits$Digit" "pattern" "I", Cond.fieldLink RX3 98 "ScannedDigits$Digit" "broken" "I", Cond.methodLink RX3 120 yX3_isDriven]
def wsL_law_r16 : List Cond := [Cond.instanceMethod yX3_isDriven, Cond.selects RX3 yX3_isDriven yX3_isDriven, Cond.code yX3_isDriven cX3_isDriven 5 (some .boolean), Cond.fieldLink RX3 106 "ScannedDigits$Digit" "brightness" "I", Cond.methodLink RX3 109 yX0_litPartAt, Cond.methodLink RX3 112 yX3_isGroupOn, Cond.instanceMethod yX3_isGroupOn, Cond.selects RX3 yX3_isGroupOn yX3_isGroupOn, Cond.code yX3_isGroupOn cX3_isGroupOn 3 (some .boolean), Cond.methodLink RX3 130 yX0_runTick, Cond.instanceMethod yX0_runTick, Cond.selects RX0 yX0_runTick yX0_runTick, Cond.code yX0_runTick cX0_runTick 5 none, Cond.static yX5_glowUnlit, Cond.code yX5_glowUnlit cX5_glowUnlit 3 (some .int), Cond.methodLink RX5 234 Lib.Math.max.name, Cond.static Lib.Math.max.name, Cond.code Lib.Math.max.name Lib.Math.max.code 2 (some .int), Cond.static yX5_glowLit, Cond.code yX5_glowLit cX5_glowLit 2 (some .int), Cond.methodLink RX5 240 Lib.Math.min.name, Cond.methodLink RX3 101 yJ6_bitCount_0f7a4, Cond.methodLink RX3 133 yX3_runCurrent, Cond.instanceMethod yX3_runCurrent]
def wsL_law_r17 : List Cond := [Cond.selects RX3 yX3_runCurrent yX3_runCurrent, Cond.code yX3_runCurrent cX3_runCurrent 2 none, Cond.constantFloat RX3 140 (1075838976), Cond.constantFloat RX3 141 (1040187392), Cond.constantFloat RX3 142 (981668463), Cond.methodLink RX3 137 yX3_frameLength, Cond.methodLink RL 59 yX6_pass, Cond.instanceMethod yX6_pass, Cond.selects RX6 yX6_pass yX6_pass, Cond.code yX6_pass cX6_pass 4 (some .int), Cond.methodLink RX6 126 yX6_tick, Cond.instanceMethod yX6_tick, Cond.selects RX6 yX6_tick yX6_tick, Cond.code yX6_tick cX6_tick 7 (some .int), Cond.constantFloat RX6 123 (1075838976), Cond.constantFloat RX6 124 (1040187392), Cond.constantFloat RX6 125 (981668463), Cond.methodLink RX6 104 yX6_slotNow, Cond.instanceMethod yX6_slotNow, Cond.selects RX6 yX6_slotNow yX6_slotNow, Cond.code yX6_slotNow cX6_slotNow 2 (some .int), Cond.methodLink RX6 116 yX6_litNow, Cond.instanceMethod yX6_litNow, Cond.selects RX6 yX6_litNow yX6_litNow]
def wsL_law_r18 : List Cond := [Cond.code yX6_litNow cX6_litNow 3 (some .int), Cond.methodLink RX6 107 yX6_isDriven, Cond.instanceMethod yX6_isDriven, Cond.selects RX6 yX6_isDriven yX6_isDriven, Cond.code yX6_isDriven cX6_isDriven 3 (some .boolean), Cond.methodLink RX6 101 yX6_isOn, Cond.instanceMethod yX6_isOn, Cond.selects RX6 yX6_isOn yX6_isOn, Cond.code yX6_isOn cX6_isOn 3 (some .boolean), Cond.methodLink RX6 119 yX6_light, Cond.instanceMethod yX6_light, Cond.selects RX6 yX6_light yX6_light, Cond.code yX6_light cX6_light 5 none, Cond.methodLink RX6 110 yX6_brighter, Cond.static yX6_brighter, Cond.code yX6_brighter cX6_brighter 3 (some .int), Cond.methodLink RX6 113 yX6_darker, Cond.instanceMethod yX6_darker, Cond.selects RX6 yX6_darker yX6_darker, Cond.code yX6_darker cX6_darker 3 (some .int), Cond.methodLink RL 60 yX5_passFrames, Cond.instanceMethod yX5_passFrames, Cond.selects RX5 yX5_passFrames yX5_passFrames, Cond.code yX5_passFrames cX5_passFrames 3 (some .int)]
def wsL_law_r19 : List Cond := [Cond.fieldLink RX5 122 "ScannedDigits$State" "frameTicks" "I", Cond.fieldLink RX5 125 "ScannedDigits$State" "time" "I", Cond.methodLink RL 63 yX6_passFrames, Cond.instanceMethod yX6_passFrames, Cond.selects RX6 yX6_passFrames yX6_passFrames, Cond.code yX6_passFrames cX6_passFrames 4 (some .int), Cond.methodLink RL 64 yX5_type, Cond.instanceMethod yX5_type, Cond.selects RX5 yX5_type yX5_type, Cond.code yX5_type cX5_type 2 (some .int), Cond.fieldLink RX5 136 "ScannedDigits$Text" "length" "I", Cond.methodLink RX5 128 yX4_isFull, Cond.instanceMethod yX4_isFull, Cond.selects RX4 yX4_isFull yX4_isFull, Cond.code yX4_isFull cX4_isFull 1 (some .boolean), Cond.fieldLink RX4 19 "ScannedDigits$Text" "length" "I", Cond.methodLink RX5 132 yX4_append, Cond.instanceMethod yX4_append, Cond.selects RX4 yX4_append yX4_append, Cond.code yX4_append cX4_append 2 none, Cond.methodLink RL 68 yX6_type, Cond.instanceMethod yX6_type, Cond.selects RX6 yX6_type yX6_type, Cond.code yX6_type cX6_type 2 (some .int)]
def wsL_law_r20 : List Cond := [Cond.fieldLink RX6 129 "ScannedDigitsModel" "typed" "I", Cond.methodLink RL 69 yX5_clearText, Cond.instanceMethod yX5_clearText, Cond.selects RX5 yX5_clearText yX5_clearText, Cond.code yX5_clearText cX5_clearText 2 (some .int), Cond.methodLink RL 73 yX6_clearText, Cond.instanceMethod yX6_clearText, Cond.selects RX6 yX6_clearText yX6_clearText, Cond.code yX6_clearText cX6_clearText 2 (some .int), Cond.methodLink RL 74 yX5_show, Cond.instanceMethod yX5_show, Cond.selects RX5 yX5_show yX5_show, Cond.code yX5_show cX5_show 2 (some .int), Cond.fieldLink RX5 142 "ScannedDigits$Text" "patterns" "[I", Cond.fieldLink RX5 149 "ScannedDigits$Text" "needed" "I", Cond.methodLink RX5 139 yX4_layOut, Cond.instanceMethod yX4_layOut, Cond.selects RX4 yX4_layOut yX4_layOut, Cond.code yX4_layOut cX4_layOut 6 (some .int), Cond.fieldLink RX4 23 "ScannedDigits$Text" "needed" "I", Cond.static yX5_patternOf, Cond.code yX5_patternOf cX5_patternOf 2 (some .int), Cond.fieldLink RX5 230 "ScannedDigits" "CHARACTERS" "[C", Cond.fieldLink RX5 227 "ScannedDigits" "PATTERNS" "[I"]
def wsL_law_r21 : List Cond := [Cond.methodLink RX5 145 yX3_takePatterns, Cond.instanceMethod yX3_takePatterns, Cond.selects RX3 yX3_takePatterns yX3_takePatterns, Cond.code yX3_takePatterns cX3_takePatterns 3 none, Cond.methodLink RL 77 yX6_show, Cond.instanceMethod yX6_show, Cond.selects RX6 yX6_show yX6_show, Cond.code yX6_show cX6_show 6 (some .int), Cond.methodLink RX6 132 yX6_patternOf, Cond.static yX6_patternOf, Cond.code yX6_patternOf cX6_patternOf 1 (some .int), Cond.methodLink RL 78 yX5_undo, Cond.instanceMethod yX5_undo, Cond.selects RX5 yX5_undo yX5_undo, Cond.code yX5_undo cX5_undo 1 (some .int), Cond.fieldLink RX5 152 "ScannedDigits$History" "size" "I", Cond.methodLink RX5 155 yX1_takeBack, Cond.instanceMethod yX1_takeBack, Cond.selects RX1 yX1_takeBack yX1_takeBack, Cond.code yX1_takeBack cX1_takeBack 2 none, Cond.methodLink RL 81 yX6_undo, Cond.instanceMethod yX6_undo, Cond.selects RX6 yX6_undo yX6_undo, Cond.code yX6_undo cX6_undo 2 (some .int)]
def wsL_law_r22 : List Cond := [Cond.methodLink RL 82 yX5_keep, Cond.instanceMethod yX5_keep, Cond.selects RX5 yX5_keep yX5_keep, Cond.code yX5_keep cX5_keep 2 (some .int), Cond.fieldLink RX5 158 "ScannedDigits$Snapshot" "state" "LScannedDigits$State;", Cond.fieldLink RX5 164 "ScannedDigits$Snapshot" "isTaken" "Z", Cond.methodLink RX5 161 yX3_copyFrom, Cond.methodLink RL 85 yX6_keep, Cond.instanceMethod yX6_keep, Cond.selects RX6 yX6_keep yX6_keep, Cond.code yX6_keep cX6_keep 3 (some .int), Cond.methodLink RL 86 yX5_restore, Cond.instanceMethod yX5_restore, Cond.selects RX5 yX5_restore yX5_restore, Cond.code yX5_restore cX5_restore 2 (some .int), Cond.methodLink RL 89 yX6_restore, Cond.instanceMethod yX6_restore, Cond.selects RX6 yX6_restore yX6_restore, Cond.code yX6_restore cX6_restore 3 (some .int), Cond.methodLink RL 90 yX5_digit, Cond.instanceMethod yX5_digit, Cond.selects RX5 yX5_digit yX5_digit, Cond.code yX5_digit cX5_digit 4 (some .int), Cond.fieldLink RX5 168 "ScannedDigits$Digit" "width" "I"]
def wsL_law_r23 : List Cond := [Cond.fieldLink RX5 183 "ScannedDigits$Digit" "drivenTicks" "I", Cond.methodLink RX5 171 yX3_slotStart, Cond.methodLink RX5 174 yX0_seen, Cond.instanceMethod yX0_seen, Cond.selects RX0 yX0_seen yX0_seen, Cond.code yX0_seen cX0_seen 4 (some .int), Cond.methodLink RX5 177 yX0_glowSum, Cond.instanceMethod yX0_glowSum, Cond.selects RX0 yX0_glowSum yX0_glowSum, Cond.code yX0_glowSum cX0_glowSum 3 (some .int), Cond.methodLink RX5 180 yX5_characterOf, Cond.static yX5_characterOf, Cond.code yX5_characterOf cX5_characterOf 2 (some .int), Cond.methodLink RL 93 yX6_digit, Cond.instanceMethod yX6_digit, Cond.selects RX6 yX6_digit yX6_digit, Cond.code yX6_digit cX6_digit 3 (some .int), Cond.methodLink RX6 136 yX6_seenOf, Cond.instanceMethod yX6_seenOf, Cond.selects RX6 yX6_seenOf yX6_seenOf, Cond.code yX6_seenOf cX6_seenOf 4 (some .int), Cond.methodLink RX6 139 yX6_glowOf, Cond.instanceMethod yX6_glowOf, Cond.selects RX6 yX6_glowOf yX6_glowOf]
def wsL_law_r24 : List Cond := [Cond.code yX6_glowOf cX6_glowOf 4 (some .int), Cond.methodLink RX6 142 yX6_charOf, Cond.instanceMethod yX6_charOf, Cond.selects RX6 yX6_charOf yX6_charOf, Cond.code yX6_charOf cX6_charOf 3 (some .int), Cond.methodLink RL 94 yX5_segment, Cond.instanceMethod yX5_segment, Cond.selects RX5 yX5_segment yX5_segment, Cond.code yX5_segment cX5_segment 5 (some .int), Cond.fieldLink RX5 186 "ScannedDigits$Digit" "glow" "[I", Cond.fieldLink RX5 189 "ScannedDigits$Digit" "use" "[I", Cond.methodLink RL 97 yX6_segment, Cond.instanceMethod yX6_segment, Cond.selects RX6 yX6_segment yX6_segment, Cond.code yX6_segment cX6_segment 4 (some .int), Cond.methodLink RL 98 yX5_litIn, Cond.instanceMethod yX5_litIn, Cond.selects RX5 yX5_litIn yX5_litIn, Cond.code yX5_litIn cX5_litIn 3 (some .int), Cond.methodLink RX5 192 yX3_slotNow, Cond.methodLink RX5 195 yX3_litNext, Cond.methodLink RL 101 yX6_litIn, Cond.instanceMethod yX6_litIn, Cond.selects RX6 yX6_litIn yX6_litIn]
def wsL_law_r25 : List Cond := [Cond.code yX6_litIn cX6_litIn 5 (some .int), Cond.methodLink RX6 145 yX6_goBack, Cond.instanceMethod yX6_goBack, Cond.selects RX6 yX6_goBack yX6_goBack, Cond.code yX6_goBack cX6_goBack 2 none, Cond.methodLink RL 102 yX5_steadyGlow, Cond.instanceMethod yX5_steadyGlow, Cond.selects RX5 yX5_steadyGlow yX5_steadyGlow, Cond.code yX5_steadyGlow cX5_steadyGlow 4 (some .int), Cond.methodLink RX5 198 yX5_glowOfFrames, Cond.static yX5_glowOfFrames, Cond.code yX5_glowOfFrames cX5_glowOfFrames 7 (some .int), Cond.methodLink RX5 243 yX5_glowLit, Cond.methodLink RX5 246 yX5_glowUnlit, Cond.methodLink RL 105 yX6_steadyGlow, Cond.instanceMethod yX6_steadyGlow, Cond.selects RX6 yX6_steadyGlow yX6_steadyGlow, Cond.code yX6_steadyGlow cX6_steadyGlow 8 (some .int), Cond.methodLink RL 106 yX5_current, Cond.instanceMethod yX5_current, Cond.selects RX5 yX5_current yX5_current, Cond.code yX5_current cX5_current 2 (some .float), Cond.fieldLink RX5 202 "ScannedDigits$State" "current" "F", Cond.fieldLink RX5 206 "ScannedDigits$State" "peak" "F"]
def wsL_law_r26 : List Cond := [Cond.fieldLink RX5 209 "ScannedDigits$State" "charge" "F", Cond.methodLink RL 110 yX6_current, Cond.instanceMethod yX6_current, Cond.selects RX6 yX6_current yX6_current, Cond.code yX6_current cX6_current 2 (some .float), Cond.methodLink RL 111 yX5_thousandths, Cond.instanceMethod yX5_thousandths, Cond.selects RX5 yX5_thousandths yX5_thousandths, Cond.code yX5_thousandths cX5_thousandths 2 (some .int), Cond.constantFloat RX5 215 (1148846080), Cond.methodLink RX5 212 yX5_current, Cond.methodLink RL 114 yX6_thousandths, Cond.instanceMethod yX6_thousandths, Cond.selects RX6 yX6_thousandths yX6_thousandths, Cond.code yX6_thousandths cX6_thousandths 2 (some .int), Cond.constantFloat RX6 148 (1148846080), Cond.methodLink RL 115 yX5_duty, Cond.instanceMethod yX5_duty, Cond.selects RX5 yX5_duty yX5_duty, Cond.code yX5_duty cX5_duty 3 (some .float), Cond.methodLink RL 118 yX6_duty, Cond.instanceMethod yX6_duty, Cond.selects RX6 yX6_duty yX6_duty, Cond.code yX6_duty cX6_duty 2 (some .float)]
def wsL_law_r27 : List Cond := [Cond.methodLink RL 119 yX5_count, Cond.instanceMethod yX5_count, Cond.selects RX5 yX5_count yX5_count, Cond.code yX5_count cX5_count 2 (some .int), Cond.fieldLink RX5 216 "ScannedDigits$State" "frame" "I", Cond.fieldLink RX5 219 "ScannedDigits$State" "drivenTicks" "I", Cond.methodLink RX5 220 yX3_brokenSegments, Cond.instanceMethod yX3_brokenSegments, Cond.selects RX3 yX3_brokenSegments yX3_brokenSegments, Cond.code yX3_brokenSegments cX3_brokenSegments 3 (some .int), Cond.methodLink RL 122 yX6_count, Cond.instanceMethod yX6_count, Cond.selects RX6 yX6_count yX6_count, Cond.code yX6_count cX6_count 2 (some .int), Cond.methodLink RX6 149 yX6_broken, Cond.instanceMethod yX6_broken, Cond.selects RX6 yX6_broken yX6_broken, Cond.code yX6_broken cX6_broken 3 (some .int), Cond.methodLink RL 123 yX5_group, Cond.instanceMethod yX5_group, Cond.selects RX5 yX5_group yX5_group, Cond.code yX5_group cX5_group 3 (some .int), Cond.methodLink RX5 223 yX3_isGroupOn, Cond.methodLink RL 126 yX6_group]
def wsL_law_r28 : List Cond := [Cond.instanceMethod yX6_group, Cond.selects RX6 yX6_group yX6_group, Cond.code yX6_group cX6_group 3 (some .int)]
def wsL_law : List Cond := (wsL_law_r1 ++ (wsL_law_r2 ++ (wsL_law_r3 ++ (wsL_law_r4 ++ (wsL_law_r5 ++ (wsL_law_r6 ++ (wsL_law_r7 ++ (wsL_law_r8 ++ (wsL_law_r9 ++ (wsL_law_r10 ++ (wsL_law_r11 ++ (wsL_law_r12 ++ (wsL_law_r13 ++ (wsL_law_r14 ++ (wsL_law_r15 ++ (wsL_law_r16 ++ (wsL_law_r17 ++ (wsL_law_r18 ++ (wsL_law_r19 ++ (wsL_law_r20 ++ (wsL_law_r21 ++ (wsL_law_r22 ++ (wsL_law_r23 ++ (wsL_law_r24 ++ (wsL_law_r25 ++ (wsL_law_r26 ++ (wsL_law_r27 ++ wsL_law_r28))))))))))))))))))))))))))) ++ wsX50 ++ wsX60 ++ wsX30 ++ wsX10 ++ wsX40 ++ wsX20 ++ wsX00 ++ ([] : List Cond)
theorem inJx8e188 : ∀ w ∈ wsJx8e1880, w ∈ lw_tbl := by decide +kernel
theorem inJ6 : ∀ w ∈ wsJ60, w ∈ lw_tbl := by decide +kernel
theorem inJ9 : ∀ w ∈ wsJ90, w ∈ lw_tbl := by decide +kernel
theorem inJ10 : ∀ w ∈ wsJ100, w ∈ lw_tbl := by decide +kernel
set_option maxRecDepth 20000 in
theorem ggX0_init_X0_makeNew : GoodIn wsX0_init wsX0_makeNew := goodIn_r _ [11, 12, 13, 14, 15, 16, 17, 18, 19, 20, 10, 21, 22, 5, 6, 23, 24, 25, 26, 27, 28, 29, 30, 31] (by decide +kernel) (by decide +kernel)
set_option maxRecDepth 20000 in
theorem gX0_init_X0_makeNew : GoodIn wsX0_init (wsV RX0 18 RX0 yX0_makeNew wsX0_makeNew) := goodIn_app (goodIn_of _ (by decide +kernel)) ggX0_init_X0_makeNew
theorem dX0_init_0 : decode cX0_init 0 = .ok (.aload_n 0, 1) := by decide +kernel
theorem dX0_init_1 : decode cX0_init 1 = .ok (.invokespecial 3, 3) := by decide +kernel
theorem dX0_init_4 : decode cX0_init 4 = .ok (.aload_n 0, 1) := by decide +kernel
theorem dX0_init_5 : decode cX0_init 5 = .ok (.bipush 8, 2) := by decide +kernel
theorem dX0_init_7 : decode cX0_init 7 = .ok (.newarray .int, 2) := by decide +kernel
theorem dX0_init_9 : decode cX0_init 9 = .ok (.putfield 9, 3) := by decide +kernel
theorem dX0_init_12 : decode cX0_init 12 = .ok (.aload_n 0, 1) := by decide +kernel
theorem dX0_init_13 : decode cX0_init 13 = .ok (.bipush 8, 2) := by decide +kernel
theorem dX0_init_15 : decode cX0_init 15 = .ok (.newarray .int, 2) := by decide +kernel
theorem dX0_init_17 : decode cX0_init 17 = .ok (.putfield 15, 3) := by decide +kernel
theorem dX0_init_20 : decode cX0_init 20 = .ok (.aload_n 0, 1) := by decide +kernel
theorem dX0_init_21 : decode cX0_init 21 = .ok (.invokevirtual 18, 3) := by decide +kernel
theorem dX0_init_24 : decode cX0_init 24 = .ok (.return_, 1) := by decide +kernel
set_option maxRecDepth 20000 in
theorem ggX0_makeNew_X0_renewSegments : GoodIn wsX0_makeNew wsX0_renewSegments := goodIn_r _ [11, 12, 13, 14, 15, 16, 17, 18, 19, 20, 21, 22, 23] (by decide +kernel) (by decide +kernel)
set_option maxRecDepth 20000 in
theorem gX0_makeNew_X0_renewSegments : GoodIn wsX0_makeNew (wsV RX0 40 RX0 yX0_renewSegments wsX0_renewSegments) := goodIn_app (goodIn_of _ (by decide +kernel)) ggX0_makeNew_X0_renewSegments
theorem dX0_makeNew_0 : decode cX0_makeNew 0 = .ok (.aload_n 0, 1) := by decide +kernel
theorem dX0_makeNew_1 : decode cX0_makeNew 1 = .ok (.bipush 10, 2) := by decide +kernel
theorem dX0_makeNew_3 : decode cX0_makeNew 3 = .ok (.putfield 21, 3) := by decide +kernel
theorem dX0_makeNew_6 : decode cX0_makeNew 6 = .ok (.aload_n 0, 1) := by decide +kernel
theorem dX0_makeNew_7 : decode cX0_makeNew 7 = .ok (.iconst 1, 1) := by decide +kernel
theorem dX0_makeNew_8 : decode cX0_makeNew 8 = .ok (.putfield 25, 3) := by decide +kernel
theorem dX0_makeNew_11 : decode cX0_makeNew 11 = .ok (.aload_n 0, 1) := by decide +kernel
theorem dX0_makeNew_12 : decode cX0_makeNew 12 = .ok (.bipush 15, 2) := by decide +kernel
theorem dX0_makeNew_14 : decode cX0_makeNew 14 = .ok (.putfield 28, 3) := by decide +kernel
theorem dX0_makeNew_17 : decode cX0_makeNew 17 = .ok (.aload_n 0, 1) := by decide +kernel
theorem dX0_makeNew_18 : decode cX0_makeNew 18 = .ok (.iconst 0, 1) := by decide +kernel
theorem dX0_makeNew_19 : decode cX0_makeNew 19 = .ok (.putfield 31, 3) := by decide +kernel
theorem dX0_makeNew_22 : decode cX0_makeNew 22 = .ok (.aload_n 0, 1) := by decide +kernel
theorem dX0_makeNew_23 : decode cX0_makeNew 23 = .ok (.iconst 0, 1) := by decide +kernel
theorem dX0_makeNew_24 : decode cX0_makeNew 24 = .ok (.putfield 34, 3) := by decide +kernel
theorem dX0_makeNew_27 : decode cX0_makeNew 27 = .ok (.aload_n 0, 1) := by decide +kernel
theorem dX0_makeNew_28 : decode cX0_makeNew 28 = .ok (.iconst 0, 1) := by decide +kernel
theorem dX0_makeNew_29 : decode cX0_makeNew 29 = .ok (.putfield 37, 3) := by decide +kernel
theorem dX0_makeNew_32 : decode cX0_makeNew 32 = .ok (.aload_n 0, 1) := by decide +kernel
theorem dX0_makeNew_33 : decode cX0_makeNew 33 = .ok (.invokevirtual 40, 3) := by decide +kernel
theorem dX0_makeNew_36 : decode cX0_makeNew 36 = .ok (.return_, 1) := by decide +kernel
theorem dX0_renewSegments_0 : decode cX0_renewSegments 0 = .ok (.aload_n 0, 1) := by decide +kernel
theorem dX0_renewSegments_1 : decode cX0_renewSegments 1 = .ok (.iconst 0, 1) := by decide +kernel
theorem dX0_renewSegments_2 : decode cX0_renewSegments 2 = .ok (.putfield 43, 3) := by decide +kernel
theorem dX0_renewSegments_5 : decode cX0_renewSegments 5 = .ok (.iconst 0, 1) := by decide +kernel
theorem dX0_renewSegments_6 : decode cX0_renewSegments 6 = .ok (.istore_n 1, 1) := by decide +kernel
theorem dX0_renewSegments_7 : decode cX0_renewSegments 7 = .ok (.iload_n 1, 1) := by decide +kernel
theorem dX0_renewSegments_8 : decode cX0_renewSegments 8 = .ok (.bipush 8, 2) := by decide +kernel
theorem dX0_renewSegments_10 : decode cX0_renewSegments 10 = .ok (.if_icmp .ge 23, 3) := by decide +kernel
theorem dX0_renewSegments_13 : decode cX0_renewSegments 13 = .ok (.aload_n 0, 1) := by decide +kernel
theorem dX0_renewSegments_14 : decode cX0_renewSegments 14 = .ok (.getfield 9, 3) := by decide +kernel
theorem dX0_renewSegments_17 : decode cX0_renewSegments 17 = .ok (.iload_n 1, 1) := by decide +kernel
theorem dX0_renewSegments_18 : decode cX0_renewSegments 18 = .ok (.iconst 0, 1) := by decide +kernel
theorem dX0_renewSegments_19 : decode cX0_renewSegments 19 = .ok (.iastore, 1) := by decide +kernel
theorem dX0_renewSegments_20 : decode cX0_renewSegments 20 = .ok (.aload_n 0, 1) := by decide +kernel
theorem dX0_renewSegments_21 : decode cX0_renewSegments 21 = .ok (.getfield 15, 3) := by decide +kernel
theorem dX0_renewSegments_24 : decode cX0_renewSegments 24 = .ok (.iload_n 1, 1) := by decide +kernel
theorem dX0_renewSegments_25 : decode cX0_renewSegments 25 = .ok (.iconst 0, 1) := by decide +kernel
theorem dX0_renewSegments_26 : decode cX0_renewSegments 26 = .ok (.iastore, 1) := by decide +kernel
theorem dX0_renewSegments_27 : decode cX0_renewSegments 27 = .ok (.iinc 1 1, 3) := by decide +kernel
theorem dX0_renewSegments_30 : decode cX0_renewSegments 30 = .ok (.goto (-23), 3) := by decide +kernel
theorem dX0_renewSegments_33 : decode cX0_renewSegments 33 = .ok (.return_, 1) := by decide +kernel
theorem dX0_copyFrom_0 : decode cX0_copyFrom 0 = .ok (.aload_n 0, 1) := by decide +kernel
theorem dX0_copyFrom_1 : decode cX0_copyFrom 1 = .ok (.aload_n 1, 1) := by decide +kernel
theorem dX0_copyFrom_2 : decode cX0_copyFrom 2 = .ok (.getfield 21, 3) := by decide +kernel
theorem dX0_copyFrom_5 : decode cX0_copyFrom 5 = .ok (.putfield 21, 3) := by decide +kernel
theorem dX0_copyFrom_8 : decode cX0_copyFrom 8 = .ok (.aload_n 0, 1) := by decide +kernel
theorem dX0_copyFrom_9 : decode cX0_copyFrom 9 = .ok (.aload_n 1, 1) := by decide +kernel
theorem dX0_copyFrom_10 : decode cX0_copyFrom 10 = .ok (.getfield 25, 3) := by decide +kernel
theorem dX0_copyFrom_13 : decode cX0_copyFrom 13 = .ok (.putfield 25, 3) := by decide +kernel
theorem dX0_copyFrom_16 : decode cX0_copyFrom 16 = .ok (.aload_n 0, 1) := by decide +kernel
theorem dX0_copyFrom_17 : decode cX0_copyFrom 17 = .ok (.aload_n 1, 1) := by decide +kernel
theorem dX0_copyFrom_18 : decode cX0_copyFrom 18 = .ok (.getfield 28, 3) := by decide +kernel
theorem dX0_copyFrom_21 : decode cX0_copyFrom 21 = .ok (.putfield 28, 3) := by decide +kernel
theorem dX0_copyFrom_24 : decode cX0_copyFrom 24 = .ok (.aload_n 0, 1) := by decide +kernel
theorem dX0_copyFrom_25 : decode cX0_copyFrom 25 = .ok (.aload_n 1, 1) := by decide +kernel
theorem dX0_copyFrom_26 : decode cX0_copyFrom 26 = .ok (.getfield 31, 3) := by decide +kernel
theorem dX0_copyFrom_29 : decode cX0_copyFrom 29 = .ok (.putfield 31, 3) := by decide +kernel
theorem dX0_copyFrom_32 : decode cX0_copyFrom 32 = .ok (.aload_n 0, 1) := by decide +kernel
theorem dX0_copyFrom_33 : decode cX0_copyFrom 33 = .ok (.aload_n 1, 1) := by decide +kernel
theorem dX0_copyFrom_34 : decode cX0_copyFrom 34 = .ok (.getfield 34, 3) := by decide +kernel
theorem dX0_copyFrom_37 : decode cX0_copyFrom 37 = .ok (.putfield 34, 3) := by decide +kernel
theorem dX0_copyFrom_40 : decode cX0_copyFrom 40 = .ok (.aload_n 0, 1) := by decide +kernel
theorem dX0_copyFrom_41 : decode cX0_copyFrom 41 = .ok (.aload_n 1, 1) := by decide +kernel
theorem dX0_copyFrom_42 : decode cX0_copyFrom 42 = .ok (.getfield 37, 3) := by decide +kernel
theorem dX0_copyFrom_45 : decode cX0_copyFrom 45 = .ok (.putfield 37, 3) := by decide +kernel
theorem dX0_copyFrom_48 : decode cX0_copyFrom 48 = .ok (.aload_n 0, 1) := by decide +kernel
theorem dX0_copyFrom_49 : decode cX0_copyFrom 49 = .ok (.aload_n 1, 1) := by decide +kernel
theorem dX0_copyFrom_50 : decode cX0_copyFrom 50 = .ok (.getfield 43, 3) := by decide +kernel
theorem dX0_copyFrom_53 : decode cX0_copyFrom 53 = .ok (.putfield 43, 3) := by decide +kernel
theorem dX0_copyFrom_56 : decode cX0_copyFrom 56 = .ok (.aload_n 1, 1) := by decide +kernel
theorem dX0_copyFrom_57 : decode cX0_copyFrom 57 = .ok (.getfield 9, 3) := by decide +kernel
theorem dX0_copyFrom_60 : decode cX0_copyFrom 60 = .ok (.iconst 0, 1) := by decide +kernel
theorem dX0_copyFrom_61 : decode cX0_copyFrom 61 = .ok (.aload_n 0, 1) := by decide +kernel
theorem dX0_copyFrom_62 : decode cX0_copyFrom 62 = .ok (.getfield 9, 3) := by decide +kernel
theorem dX0_copyFrom_65 : decode cX0_copyFrom 65 = .ok (.iconst 0, 1) := by decide +kernel
theorem dX0_copyFrom_66 : decode cX0_copyFrom 66 = .ok (.bipush 8, 2) := by decide +kernel
theorem dX0_copyFrom_68 : decode cX0_copyFrom 68 = .ok (.invokestatic 46, 3) := by decide +kernel
theorem dX0_copyFrom_71 : decode cX0_copyFrom 71 = .ok (.aload_n 1, 1) := by decide +kernel
theorem dX0_copyFrom_72 : decode cX0_copyFrom 72 = .ok (.getfield 15, 3) := by decide +kernel
theorem dX0_copyFrom_75 : decode cX0_copyFrom 75 = .ok (.iconst 0, 1) := by decide +kernel
theorem dX0_copyFrom_76 : decode cX0_copyFrom 76 = .ok (.aload_n 0, 1) := by decide +kernel
theorem dX0_copyFrom_77 : decode cX0_copyFrom 77 = .ok (.getfield 15, 3) := by decide +kernel
theorem dX0_copyFrom_80 : decode cX0_copyFrom 80 = .ok (.iconst 0, 1) := by decide +kernel
theorem dX0_copyFrom_81 : decode cX0_copyFrom 81 = .ok (.bipush 8, 2) := by decide +kernel
theorem dX0_copyFrom_83 : decode cX0_copyFrom 83 = .ok (.invokestatic 46, 3) := by decide +kernel
theorem dX0_copyFrom_86 : decode cX0_copyFrom 86 = .ok (.return_, 1) := by decide +kernel
set_option maxRecDepth 20000 in
theorem ggX0_litPart_X0_litPartAt : GoodIn wsX0_litPart wsX0_litPartAt := goodIn_r _ [6, 7, 8, 9, 10, 11, 12, 13, 14, 15, 16, 17] (by decide +kernel) (by decide +kernel)
set_option maxRecDepth 20000 in
theorem gX0_litPart_X0_litPartAt : GoodIn wsX0_litPart (wsV RX0 52 RX0 yX0_litPartAt wsX0_litPartAt) := goodIn_app (goodIn_of _ (by decide +kernel)) ggX0_litPart_X0_litPartAt
theorem dX0_litPart_0 : decode cX0_litPart 0 = .ok (.aload_n 0, 1) := by decide +kernel
theorem dX0_litPart_1 : decode cX0_litPart 1 = .ok (.aload_n 0, 1) := by decide +kernel
theorem dX0_litPart_2 : decode cX0_litPart 2 = .ok (.getfield 28, 3) := by decide +kernel
theorem dX0_litPart_5 : decode cX0_litPart 5 = .ok (.invokevirtual 52, 3) := by decide +kernel
theorem dX0_litPart_8 : decode cX0_litPart 8 = .ok (.ireturn, 1) := by decide +kernel
theorem dX0_litPartAt_0 : decode cX0_litPartAt 0 = .ok (.aload_n 0, 1) := by decide +kernel
theorem dX0_litPartAt_1 : decode cX0_litPartAt 1 = .ok (.getfield 21, 3) := by decide +kernel
theorem dX0_litPartAt_4 : decode cX0_litPartAt 4 = .ok (.aload_n 0, 1) := by decide +kernel
theorem dX0_litPartAt_5 : decode cX0_litPartAt 5 = .ok (.getfield 25, 3) := by decide +kernel
theorem dX0_litPartAt_8 : decode cX0_litPartAt 8 = .ok (.isub, 1) := by decide +kernel
theorem dX0_litPartAt_9 : decode cX0_litPartAt 9 = .ok (.iload_n 1, 1) := by decide +kernel
theorem dX0_litPartAt_10 : decode cX0_litPartAt 10 = .ok (.imul, 1) := by decide +kernel
theorem dX0_litPartAt_11 : decode cX0_litPartAt 11 = .ok (.bipush 15, 2) := by decide +kernel
theorem dX0_litPartAt_13 : decode cX0_litPartAt 13 = .ok (.idiv, 1) := by decide +kernel
theorem dX0_litPartAt_14 : decode cX0_litPartAt 14 = .ok (.ireturn, 1) := by decide +kernel
set_option maxRecDepth 20000 in
theorem ggX0_runTick_X5_glowUnlit : GoodIn wsX0_runTick wsX5_glowUnlit := goodIn_r _ [6, 7, 8, 9, 10] (by decide +kernel) (by decide +kernel)
set_option maxRecDepth 20000 in
theorem gX0_runTick_X5_glowUnlit_n56 : GoodIn wsX0_runTick (wsX5_glowUnlit) := ggX0_runTick_X5_glowUnlit
set_option maxRecDepth 20000 in
theorem ggX0_runTick_X5_glowLit : GoodIn wsX0_runTick wsX5_glowLit := goodIn_r _ [12, 7, 8, 9, 10, 13, 14, 15] (by decide +kernel) (by decide +kernel)
set_option maxRecDepth 20000 in
theorem gX0_runTick_X5_glowLit_n60 : GoodIn wsX0_runTick (wsX5_glowLit) := ggX0_runTick_X5_glowLit
theorem dX0_runTick_0 : decode cX0_runTick 0 = .ok (.iconst 0, 1) := by decide +kernel
theorem dX0_runTick_1 : decode cX0_runTick 1 = .ok (.istore 4, 2) := by decide +kernel
theorem dX0_runTick_3 : decode cX0_runTick 3 = .ok (.iload 4, 2) := by decide +kernel
theorem dX0_runTick_5 : decode cX0_runTick 5 = .ok (.bipush 8, 2) := by decide +kernel
theorem dX0_runTick_7 : decode cX0_runTick 7 = .ok (.if_icmp .ge 91, 3) := by decide +kernel
theorem dX0_runTick_10 : decode cX0_runTick 10 = .ok (.iload_n 1, 1) := by decide +kernel
theorem dX0_runTick_11 : decode cX0_runTick 11 = .ok (.iload 4, 2) := by decide +kernel
theorem dX0_runTick_13 : decode cX0_runTick 13 = .ok (.ishr, 1) := by decide +kernel
theorem dX0_runTick_14 : decode cX0_runTick 14 = .ok (.iconst 1, 1) := by decide +kernel
theorem dX0_runTick_15 : decode cX0_runTick 15 = .ok (.iand, 1) := by decide +kernel
theorem dX0_runTick_16 : decode cX0_runTick 16 = .ok (.ifCond .ne 24, 3) := by decide +kernel
theorem dX0_runTick_19 : decode cX0_runTick 19 = .ok (.aload_n 0, 1) := by decide +kernel
theorem dX0_runTick_20 : decode cX0_runTick 20 = .ok (.getfield 9, 3) := by decide +kernel
theorem dX0_runTick_23 : decode cX0_runTick 23 = .ok (.iload 4, 2) := by decide +kernel
theorem dX0_runTick_25 : decode cX0_runTick 25 = .ok (.aload_n 0, 1) := by decide +kernel
theorem dX0_runTick_26 : decode cX0_runTick 26 = .ok (.getfield 9, 3) := by decide +kernel
theorem dX0_runTick_29 : decode cX0_runTick 29 = .ok (.iload 4, 2) := by decide +kernel
theorem dX0_runTick_31 : decode cX0_runTick 31 = .ok (.iaload, 1) := by decide +kernel
theorem dX0_runTick_32 : decode cX0_runTick 32 = .ok (.iload_n 2, 1) := by decide +kernel
theorem dX0_runTick_33 : decode cX0_runTick 33 = .ok (.invokestatic 56, 3) := by decide +kernel
theorem dX0_runTick_36 : decode cX0_runTick 36 = .ok (.iastore, 1) := by decide +kernel
theorem dX0_runTick_37 : decode cX0_runTick 37 = .ok (.goto 55, 3) := by decide +kernel
theorem dX0_runTick_40 : decode cX0_runTick 40 = .ok (.aload_n 0, 1) := by decide +kernel
theorem dX0_runTick_41 : decode cX0_runTick 41 = .ok (.getfield 9, 3) := by decide +kernel
theorem dX0_runTick_44 : decode cX0_runTick 44 = .ok (.iload 4, 2) := by decide +kernel
theorem dX0_runTick_46 : decode cX0_runTick 46 = .ok (.aload_n 0, 1) := by decide +kernel
theorem dX0_runTick_47 : decode cX0_runTick 47 = .ok (.getfield 9, 3) := by decide +kernel
theorem dX0_runTick_50 : decode cX0_runTick 50 = .ok (.iload 4, 2) := by decide +kernel
theorem dX0_runTick_52 : decode cX0_runTick 52 = .ok (.iaload, 1) := by decide +kernel
theorem dX0_runTick_53 : decode cX0_runTick 53 = .ok (.invokestatic 60, 3) := by decide +kernel
theorem dX0_runTick_56 : decode cX0_runTick 56 = .ok (.iastore, 1) := by decide +kernel
theorem dX0_runTick_57 : decode cX0_runTick 57 = .ok (.aload_n 0, 1) := by decide +kernel
theorem dX0_runTick_58 : decode cX0_runTick 58 = .ok (.getfield 15, 3) := by decide +kernel
theorem dX0_runTick_61 : decode cX0_runTick 61 = .ok (.iload 4, 2) := by decide +kernel
theorem dX0_runTick_63 : decode cX0_runTick 63 = .ok (.dup2, 1) := by decide +kernel
theorem dX0_runTick_64 : decode cX0_runTick 64 = .ok (.iaload, 1) := by decide +kernel
theorem dX0_runTick_65 : decode cX0_runTick 65 = .ok (.iconst 1, 1) := by decide +kernel
theorem dX0_runTick_66 : decode cX0_runTick 66 = .ok (.iadd, 1) := by decide +kernel
theorem dX0_runTick_67 : decode cX0_runTick 67 = .ok (.iastore, 1) := by decide +kernel
theorem dX0_runTick_68 : decode cX0_runTick 68 = .ok (.aload_n 0, 1) := by decide +kernel
theorem dX0_runTick_69 : decode cX0_runTick 69 = .ok (.getfield 15, 3) := by decide +kernel
theorem dX0_runTick_72 : decode cX0_runTick 72 = .ok (.iload 4, 2) := by decide +kernel
theorem dX0_runTick_74 : decode cX0_runTick 74 = .ok (.iaload, 1) := by decide +kernel
theorem dX0_runTick_75 : decode cX0_runTick 75 = .ok (.iload_n 3, 1) := by decide +kernel
theorem dX0_runTick_76 : decode cX0_runTick 76 = .ok (.if_icmp .lt 16, 3) := by decide +kernel
theorem dX0_runTick_79 : decode cX0_runTick 79 = .ok (.aload_n 0, 1) := by decide +kernel
theorem dX0_runTick_80 : decode cX0_runTick 80 = .ok (.dup, 1) := by decide +kernel
theorem dX0_runTick_81 : decode cX0_runTick 81 = .ok (.getfield 43, 3) := by decide +kernel
theorem dX0_runTick_84 : decode cX0_runTick 84 = .ok (.iconst 1, 1) := by decide +kernel
theorem dX0_runTick_85 : decode cX0_runTick 85 = .ok (.iload 4, 2) := by decide +kernel
theorem dX0_runTick_87 : decode cX0_runTick 87 = .ok (.ishl, 1) := by decide +kernel
theorem dX0_runTick_88 : decode cX0_runTick 88 = .ok (.ior, 1) := by decide +kernel
theorem dX0_runTick_89 : decode cX0_runTick 89 = .ok (.putfield 43, 3) := by decide +kernel
theorem dX0_runTick_92 : decode cX0_runTick 92 = .ok (.iinc 4 1, 3) := by decide +kernel
theorem dX0_runTick_95 : decode cX0_runTick 95 = .ok (.goto (-92), 3) := by decide +kernel
theorem dX0_runTick_98 : decode cX0_runTick 98 = .ok (.return_, 1) := by decide +kernel
theorem dX0_seen_0 : decode cX0_seen 0 = .ok (.iconst 0, 1) := by decide +kernel
theorem dX0_seen_1 : decode cX0_seen 1 = .ok (.istore_n 2, 1) := by decide +kernel
theorem dX0_seen_2 : decode cX0_seen 2 = .ok (.iconst 0, 1) := by decide +kernel
theorem dX0_seen_3 : decode cX0_seen 3 = .ok (.istore_n 3, 1) := by decide +kernel
theorem dX0_seen_4 : decode cX0_seen 4 = .ok (.iload_n 3, 1) := by decide +kernel
theorem dX0_seen_5 : decode cX0_seen 5 = .ok (.bipush 8, 2) := by decide +kernel
theorem dX0_seen_7 : decode cX0_seen 7 = .ok (.if_icmp .ge 25, 3) := by decide +kernel
theorem dX0_seen_10 : decode cX0_seen 10 = .ok (.aload_n 0, 1) := by decide +kernel
theorem dX0_seen_11 : decode cX0_seen 11 = .ok (.getfield 9, 3) := by decide +kernel
theorem dX0_seen_14 : decode cX0_seen 14 = .ok (.iload_n 3, 1) := by decide +kernel
theorem dX0_seen_15 : decode cX0_seen 15 = .ok (.iaload, 1) := by decide +kernel
theorem dX0_seen_16 : decode cX0_seen 16 = .ok (.iload_n 1, 1) := by decide +kernel
theorem dX0_seen_17 : decode cX0_seen 17 = .ok (.if_icmp .lt 9, 3) := by decide +kernel
theorem dX0_seen_20 : decode cX0_seen 20 = .ok (.iload_n 2, 1) := by decide +kernel
theorem dX0_seen_21 : decode cX0_seen 21 = .ok (.iconst 1, 1) := by decide +kernel
theorem dX0_seen_22 : decode cX0_seen 22 = .ok (.iload_n 3, 1) := by decide +kernel
theorem dX0_seen_23 : decode cX0_seen 23 = .ok (.ishl, 1) := by decide +kernel
theorem dX0_seen_24 : decode cX0_seen 24 = .ok (.ior, 1) := by decide +kernel
theorem dX0_seen_25 : decode cX0_seen 25 = .ok (.istore_n 2, 1) := by decide +kernel
theorem dX0_seen_26 : decode cX0_seen 26 = .ok (.iinc 3 1, 3) := by decide +kernel
theorem dX0_seen_29 : decode cX0_seen 29 = .ok (.goto (-25), 3) := by decide +kernel
theorem dX0_seen_32 : decode cX0_seen 32 = .ok (.iload_n 2, 1) := by decide +kernel
theorem dX0_seen_33 : decode cX0_seen 33 = .ok (.ireturn, 1) := by decide +kernel
theorem dX0_glowSum_0 : decode cX0_glowSum 0 = .ok (.iconst 0, 1) := by decide +kernel
theorem dX0_glowSum_1 : decode cX0_glowSum 1 = .ok (.istore_n 1, 1) := by decide +kernel
theorem dX0_glowSum_2 : decode cX0_glowSum 2 = .ok (.iconst 0, 1) := by decide +kernel
theorem dX0_glowSum_3 : decode cX0_glowSum 3 = .ok (.istore_n 2, 1) := by decide +kernel
theorem dX0_glowSum_4 : decode cX0_glowSum 4 = .ok (.iload_n 2, 1) := by decide +kernel
theorem dX0_glowSum_5 : decode cX0_glowSum 5 = .ok (.bipush 8, 2) := by decide +kernel
theorem dX0_glowSum_7 : decode cX0_glowSum 7 = .ok (.if_icmp .ge 18, 3) := by decide +kernel
theorem dX0_glowSum_10 : decode cX0_glowSum 10 = .ok (.iload_n 1, 1) := by decide +kernel
theorem dX0_glowSum_11 : decode cX0_glowSum 11 = .ok (.aload_n 0, 1) := by decide +kernel
theorem dX0_glowSum_12 : decode cX0_glowSum 12 = .ok (.getfield 9, 3) := by decide +kernel
theorem dX0_glowSum_15 : decode cX0_glowSum 15 = .ok (.iload_n 2, 1) := by decide +kernel
theorem dX0_glowSum_16 : decode cX0_glowSum 16 = .ok (.iaload, 1) := by decide +kernel
theorem dX0_glowSum_17 : decode cX0_glowSum 17 = .ok (.iadd, 1) := by decide +kernel
theorem dX0_glowSum_18 : decode cX0_glowSum 18 = .ok (.istore_n 1, 1) := by decide +kernel
theorem dX0_glowSum_19 : decode cX0_glowSum 19 = .ok (.iinc 2 1, 3) := by decide +kernel
theorem dX0_glowSum_22 : decode cX0_glowSum 22 = .ok (.goto (-18), 3) := by decide +kernel
theorem dX0_glowSum_25 : decode cX0_glowSum 25 = .ok (.iload_n 1, 1) := by decide +kernel
theorem dX0_glowSum_26 : decode cX0_glowSum 26 = .ok (.ireturn, 1) := by decide +kernel
set_option maxRecDepth 20000 in
theorem ggX1_init_X3_init : GoodIn wsX1_init wsX3_init := goodIn_r _ [10, 11, 2, 3, 12, 13, 14, 15, 16, 17, 18, 19, 20, 21, 22, 23, 24, 25, 26, 27, 28, 29, 30, 31, 32, 33, 34, 35, 36, 37, 38, 39, 40, 41, 42, 43, 44, 45, 46, 47, 51, 52, 53, 54, 55, 56, 57, 58, 59, 60, 61, 62, 63, 64, 65, 66, 67, 68, 69, 70, 71, 72] (by decide +kernel) (by decide +kernel)
set_option maxRecDepth 20000 in
theorem gX1_init_X3_init : GoodIn wsX1_init (wsX3_init) := ggX1_init_X3_init
theorem dX1_init_0 : decode cX1_init 0 = .ok (.aload_n 0, 1) := by decide +kernel
theorem dX1_init_1 : decode cX1_init 1 = .ok (.invokespecial 3, 3) := by decide +kernel
theorem dX1_init_4 : decode cX1_init 4 = .ok (.aload_n 0, 1) := by decide +kernel
theorem dX1_init_5 : decode cX1_init 5 = .ok (.iconst 5, 1) := by decide +kernel
theorem dX1_init_6 : decode cX1_init 6 = .ok (.anewarray 9, 3) := by decide +kernel
theorem dX1_init_9 : decode cX1_init 9 = .ok (.putfield 11, 3) := by decide +kernel
theorem dX1_init_12 : decode cX1_init 12 = .ok (.iconst 0, 1) := by decide +kernel
theorem dX1_init_13 : decode cX1_init 13 = .ok (.istore_n 1, 1) := by decide +kernel
theorem dX1_init_14 : decode cX1_init 14 = .ok (.iload_n 1, 1) := by decide +kernel
theorem dX1_init_15 : decode cX1_init 15 = .ok (.aload_n 0, 1) := by decide +kernel
theorem dX1_init_16 : decode cX1_init 16 = .ok (.getfield 11, 3) := by decide +kernel
theorem dX1_init_19 : decode cX1_init 19 = .ok (.arraylength, 1) := by decide +kernel
theorem dX1_init_20 : decode cX1_init 20 = .ok (.if_icmp .ge 22, 3) := by decide +kernel
theorem dX1_init_23 : decode cX1_init 23 = .ok (.aload_n 0, 1) := by decide +kernel
theorem dX1_init_24 : decode cX1_init 24 = .ok (.getfield 11, 3) := by decide +kernel
theorem dX1_init_27 : decode cX1_init 27 = .ok (.iload_n 1, 1) := by decide +kernel
theorem dX1_init_28 : decode cX1_init 28 = .ok (.new 9, 3) := by decide +kernel
theorem dX1_init_31 : decode cX1_init 31 = .ok (.dup, 1) := by decide +kernel
theorem dX1_init_32 : decode cX1_init 32 = .ok (.invokespecial 17, 3) := by decide +kernel
theorem dX1_init_35 : decode cX1_init 35 = .ok (.aastore, 1) := by decide +kernel
theorem dX1_init_36 : decode cX1_init 36 = .ok (.iinc 1 1, 3) := by decide +kernel
theorem dX1_init_39 : decode cX1_init 39 = .ok (.goto (-25), 3) := by decide +kernel
theorem dX1_init_42 : decode cX1_init 42 = .ok (.return_, 1) := by decide +kernel
set_option maxRecDepth 20000 in
theorem ggX1_record_X3_copyFrom : GoodIn wsX1_record wsX3_copyFrom := goodIn_r _ [12, 13, 14, 15, 16, 17, 18, 19, 20, 21, 22, 23, 24, 25, 26, 27, 28, 29, 30, 31, 32, 33, 34, 35, 36, 37, 38, 39, 40, 41, 42, 43, 44, 48, 49, 50, 51, 52, 53, 54, 55, 56, 57, 58, 59, 60, 61, 62, 63, 64, 65, 66, 67, 68, 69] (by decide +kernel) (by decide +kernel)
set_option maxRecDepth 20000 in
theorem gX1_record_X3_copyFrom : GoodIn wsX1_record (wsV RX1 22 RX3 yX3_copyFrom wsX3_copyFrom) := goodIn_app (goodIn_of _ (by decide +kernel)) ggX1_record_X3_copyFrom
theorem dX1_record_0 : decode cX1_record 0 = .ok (.aload_n 0, 1) := by decide +kernel
theorem dX1_record_1 : decode cX1_record 1 = .ok (.getfield 11, 3) := by decide +kernel
theorem dX1_record_4 : decode cX1_record 4 = .ok (.aload_n 0, 1) := by decide +kernel
theorem dX1_record_5 : decode cX1_record 5 = .ok (.getfield 18, 3) := by decide +kernel
theorem dX1_record_8 : decode cX1_record 8 = .ok (.aaload, 1) := by decide +kernel
theorem dX1_record_9 : decode cX1_record 9 = .ok (.aload_n 1, 1) := by decide +kernel
theorem dX1_record_10 : decode cX1_record 10 = .ok (.invokevirtual 22, 3) := by decide +kernel
theorem dX1_record_13 : decode cX1_record 13 = .ok (.aload_n 0, 1) := by decide +kernel
theorem dX1_record_14 : decode cX1_record 14 = .ok (.aload_n 0, 1) := by decide +kernel
theorem dX1_record_15 : decode cX1_record 15 = .ok (.getfield 18, 3) := by decide +kernel
theorem dX1_record_18 : decode cX1_record 18 = .ok (.iconst 4, 1) := by decide +kernel
theorem dX1_record_19 : decode cX1_record 19 = .ok (.if_icmp .ge 12, 3) := by decide +kernel
theorem dX1_record_22 : decode cX1_record 22 = .ok (.aload_n 0, 1) := by decide +kernel
theorem dX1_record_23 : decode cX1_record 23 = .ok (.getfield 18, 3) := by decide +kernel
theorem dX1_record_26 : decode cX1_record 26 = .ok (.iconst 1, 1) := by decide +kernel
theorem dX1_record_27 : decode cX1_record 27 = .ok (.iadd, 1) := by decide +kernel
theorem dX1_record_28 : decode cX1_record 28 = .ok (.goto 4, 3) := by decide +kernel
theorem dX1_record_31 : decode cX1_record 31 = .ok (.iconst 0, 1) := by decide +kernel
theorem dX1_record_32 : decode cX1_record 32 = .ok (.putfield 18, 3) := by decide +kernel
theorem dX1_record_35 : decode cX1_record 35 = .ok (.aload_n 0, 1) := by decide +kernel
theorem dX1_record_36 : decode cX1_record 36 = .ok (.iconst 5, 1) := by decide +kernel
theorem dX1_record_37 : decode cX1_record 37 = .ok (.aload_n 0, 1) := by decide +kernel
theorem dX1_record_38 : decode cX1_record 38 = .ok (.getfield 26, 3) := by decide +kernel
theorem dX1_record_41 : decode cX1_record 41 = .ok (.iconst 1, 1) := by decide +kernel
theorem dX1_record_42 : decode cX1_record 42 = .ok (.iadd, 1) := by decide +kernel
theorem dX1_record_43 : decode cX1_record 43 = .ok (.invokestatic 29, 3) := by decide +kernel
theorem dX1_record_46 : decode cX1_record 46 = .ok (.putfield 26, 3) := by decide +kernel
theorem dX1_record_49 : decode cX1_record 49 = .ok (.return_, 1) := by decide +kernel
set_option maxRecDepth 20000 in
theorem ggX1_takeBack_X3_copyFrom : GoodIn wsX1_takeBack wsX3_copyFrom := goodIn_r _ [8, 9, 10, 11, 12, 13, 14, 15, 16, 17, 18, 19, 20, 21, 22, 23, 24, 25, 26, 27, 28, 29, 30, 31, 32, 33, 34, 35, 36, 37, 38, 39, 40, 44, 45, 46, 47, 48, 49, 50, 51, 52, 53, 54, 55, 56, 57, 58, 59, 60, 61, 62, 63, 64, 65] (by decide +kernel) (by decide +kernel)
set_option maxRecDepth 20000 in
theorem gX1_takeBack_X3_copyFrom : GoodIn wsX1_takeBack (wsV RX1 22 RX3 yX3_copyFrom wsX3_copyFrom) := goodIn_app (goodIn_of _ (by decide +kernel)) ggX1_takeBack_X3_copyFrom
theorem dX1_takeBack_0 : decode cX1_takeBack 0 = .ok (.aload_n 0, 1) := by decide +kernel
theorem dX1_takeBack_1 : decode cX1_takeBack 1 = .ok (.aload_n 0, 1) := by decide +kernel
theorem dX1_takeBack_2 : decode cX1_takeBack 2 = .ok (.getfield 18, 3) := by decide +kernel
theorem dX1_takeBack_5 : decode cX1_takeBack 5 = .ok (.ifCond .le 12, 3) := by decide +kernel
theorem dX1_takeBack_8 : decode cX1_takeBack 8 = .ok (.aload_n 0, 1) := by decide +kernel
theorem dX1_takeBack_9 : decode cX1_takeBack 9 = .ok (.getfield 18, 3) := by decide +kernel
theorem dX1_takeBack_12 : decode cX1_takeBack 12 = .ok (.iconst 1, 1) := by decide +kernel
theorem dX1_takeBack_13 : decode cX1_takeBack 13 = .ok (.isub, 1) := by decide +kernel
theorem dX1_takeBack_14 : decode cX1_takeBack 14 = .ok (.goto 4, 3) := by decide +kernel
theorem dX1_takeBack_17 : decode cX1_takeBack 17 = .ok (.iconst 4, 1) := by decide +kernel
theorem dX1_takeBack_18 : decode cX1_takeBack 18 = .ok (.putfield 18, 3) := by decide +kernel
theorem dX1_takeBack_21 : decode cX1_takeBack 21 = .ok (.aload_n 1, 1) := by decide +kernel
theorem dX1_takeBack_22 : decode cX1_takeBack 22 = .ok (.aload_n 0, 1) := by decide +kernel
theorem dX1_takeBack_23 : decode cX1_takeBack 23 = .ok (.getfield 11, 3) := by decide +kernel
theorem dX1_takeBack_26 : decode cX1_takeBack 26 = .ok (.aload_n 0, 1) := by decide +kernel
theorem dX1_takeBack_27 : decode cX1_takeBack 27 = .ok (.getfield 18, 3) := by decide +kernel
theorem dX1_takeBack_30 : decode cX1_takeBack 30 = .ok (.aaload, 1) := by decide +kernel
theorem dX1_takeBack_31 : decode cX1_takeBack 31 = .ok (.invokevirtual 22, 3) := by decide +kernel
theorem dX1_takeBack_34 : decode cX1_takeBack 34 = .ok (.aload_n 0, 1) := by decide +kernel
theorem dX1_takeBack_35 : decode cX1_takeBack 35 = .ok (.dup, 1) := by decide +kernel
theorem dX1_takeBack_36 : decode cX1_takeBack 36 = .ok (.getfield 26, 3) := by decide +kernel
theorem dX1_takeBack_39 : decode cX1_takeBack 39 = .ok (.iconst 1, 1) := by decide +kernel
theorem dX1_takeBack_40 : decode cX1_takeBack 40 = .ok (.isub, 1) := by decide +kernel
theorem dX1_takeBack_41 : decode cX1_takeBack 41 = .ok (.putfield 26, 3) := by decide +kernel
theorem dX1_takeBack_44 : decode cX1_takeBack 44 = .ok (.return_, 1) := by decide +kernel
set_option maxRecDepth 20000 in
theorem ggX2_init_X3_init : GoodIn wsX2_init wsX3_init := goodIn_r _ [10, 11, 2, 3, 12, 13, 14, 15, 16, 17, 18, 19, 20, 21, 22, 23, 24, 25, 26, 27, 28, 29, 30, 31, 32, 33, 34, 35, 36, 37, 38, 39, 40, 41, 42, 43, 44, 45, 46, 47, 48, 49, 50, 51, 52, 53, 54, 55, 56, 57, 58, 59, 60, 63, 64, 65, 66, 67, 68, 69, 70, 71] (by decide +kernel) (by decide +kernel)
set_option maxRecDepth 20000 in
theorem gX2_init_X3_init : GoodIn wsX2_init (wsX3_init) := ggX2_init_X3_init
theorem dX2_init_0 : decode cX2_init 0 = .ok (.aload_n 0, 1) := by decide +kernel
theorem dX2_init_1 : decode cX2_init 1 = .ok (.invokespecial 1, 3) := by decide +kernel
theorem dX2_init_4 : decode cX2_init 4 = .ok (.aload_n 0, 1) := by decide +kernel
theorem dX2_init_5 : decode cX2_init 5 = .ok (.new 7, 3) := by decide +kernel
theorem dX2_init_8 : decode cX2_init 8 = .ok (.dup, 1) := by decide +kernel
theorem dX2_init_9 : decode cX2_init 9 = .ok (.invokespecial 9, 3) := by decide +kernel
theorem dX2_init_12 : decode cX2_init 12 = .ok (.putfield 10, 3) := by decide +kernel
theorem dX2_init_15 : decode cX2_init 15 = .ok (.return_, 1) := by decide +kernel
set_option maxRecDepth 20000 in
theorem ggX3_init_X0_init : GoodIn wsX3_init wsX0_init := goodIn_r _ [21, 22, 2, 3, 7, 23, 24, 25, 26, 27, 18, 28, 29, 30, 31, 32, 33, 34, 35, 36, 37, 38, 39, 53, 54, 55, 56, 57, 58, 59, 60, 61] (by decide +kernel) (by decide +kernel)
set_option maxRecDepth 20000 in
theorem gX3_init_X0_init : GoodIn wsX3_init (wsX0_init) := ggX3_init_X0_init
theorem dX3_init_0 : decode cX3_init 0 = .ok (.aload_n 0, 1) := by decide +kernel
theorem dX3_init_1 : decode cX3_init 1 = .ok (.invokespecial 3, 3) := by decide +kernel
theorem dX3_init_4 : decode cX3_init 4 = .ok (.aload_n 0, 1) := by decide +kernel
theorem dX3_init_5 : decode cX3_init 5 = .ok (.bipush 8, 2) := by decide +kernel
theorem dX3_init_7 : decode cX3_init 7 = .ok (.anewarray 9, 3) := by decide +kernel
theorem dX3_init_10 : decode cX3_init 10 = .ok (.putfield 11, 3) := by decide +kernel
theorem dX3_init_13 : decode cX3_init 13 = .ok (.aload_n 0, 1) := by decide +kernel
theorem dX3_init_14 : decode cX3_init 14 = .ok (.iconst 4, 1) := by decide +kernel
theorem dX3_init_15 : decode cX3_init 15 = .ok (.putfield 17, 3) := by decide +kernel
theorem dX3_init_18 : decode cX3_init 18 = .ok (.aload_n 0, 1) := by decide +kernel
theorem dX3_init_19 : decode cX3_init 19 = .ok (.iconst 4, 1) := by decide +kernel
theorem dX3_init_20 : decode cX3_init 20 = .ok (.newarray .int, 2) := by decide +kernel
theorem dX3_init_22 : decode cX3_init 22 = .ok (.dup, 1) := by decide +kernel
theorem dX3_init_23 : decode cX3_init 23 = .ok (.iconst 0, 1) := by decide +kernel
theorem dX3_init_24 : decode cX3_init 24 = .ok (.iconst 0, 1) := by decide +kernel
theorem dX3_init_25 : decode cX3_init 25 = .ok (.iastore, 1) := by decide +kernel
theorem dX3_init_26 : decode cX3_init 26 = .ok (.dup, 1) := by decide +kernel
theorem dX3_init_27 : decode cX3_init 27 = .ok (.iconst 1, 1) := by decide +kernel
theorem dX3_init_28 : decode cX3_init 28 = .ok (.iconst 5, 1) := by decide +kernel
theorem dX3_init_29 : decode cX3_init 29 = .ok (.iastore, 1) := by decide +kernel
theorem dX3_init_30 : decode cX3_init 30 = .ok (.dup, 1) := by decide +kernel
theorem dX3_init_31 : decode cX3_init 31 = .ok (.iconst 2, 1) := by decide +kernel
theorem dX3_init_32 : decode cX3_init 32 = .ok (.iconst 5, 1) := by decide +kernel
theorem dX3_init_33 : decode cX3_init 33 = .ok (.iastore, 1) := by decide +kernel
theorem dX3_init_34 : decode cX3_init 34 = .ok (.dup, 1) := by decide +kernel
theorem dX3_init_35 : decode cX3_init 35 = .ok (.iconst 3, 1) := by decide +kernel
theorem dX3_init_36 : decode cX3_init 36 = .ok (.iconst 5, 1) := by decide +kernel
theorem dX3_init_37 : decode cX3_init 37 = .ok (.iastore, 1) := by decide +kernel
theorem dX3_init_38 : decode cX3_init 38 = .ok (.putfield 21, 3) := by decide +kernel
theorem dX3_init_41 : decode cX3_init 41 = .ok (.aload_n 0, 1) := by decide +kernel
theorem dX3_init_42 : decode cX3_init 42 = .ok (.iconst 4, 1) := by decide +kernel
theorem dX3_init_43 : decode cX3_init 43 = .ok (.newarray .int, 2) := by decide +kernel
theorem dX3_init_45 : decode cX3_init 45 = .ok (.dup, 1) := by decide +kernel
theorem dX3_init_46 : decode cX3_init 46 = .ok (.iconst 0, 1) := by decide +kernel
theorem dX3_init_47 : decode cX3_init 47 = .ok (.iconst 0, 1) := by decide +kernel
theorem dX3_init_48 : decode cX3_init 48 = .ok (.iastore, 1) := by decide +kernel
theorem dX3_init_49 : decode cX3_init 49 = .ok (.dup, 1) := by decide +kernel
theorem dX3_init_50 : decode cX3_init 50 = .ok (.iconst 1, 1) := by decide +kernel
theorem dX3_init_51 : decode cX3_init 51 = .ok (.iconst 5, 1) := by decide +kernel
theorem dX3_init_52 : decode cX3_init 52 = .ok (.iastore, 1) := by decide +kernel
theorem dX3_init_53 : decode cX3_init 53 = .ok (.dup, 1) := by decide +kernel
theorem dX3_init_54 : decode cX3_init 54 = .ok (.iconst 2, 1) := by decide +kernel
theorem dX3_init_55 : decode cX3_init 55 = .ok (.iconst 5, 1) := by decide +kernel
theorem dX3_init_56 : decode cX3_init 56 = .ok (.iastore, 1) := by decide +kernel
theorem dX3_init_57 : decode cX3_init 57 = .ok (.dup, 1) := by decide +kernel
theorem dX3_init_58 : decode cX3_init 58 = .ok (.iconst 3, 1) := by decide +kernel
theorem dX3_init_59 : decode cX3_init 59 = .ok (.iconst 5, 1) := by decide +kernel
theorem dX3_init_60 : decode cX3_init 60 = .ok (.iastore, 1) := by decide +kernel
theorem dX3_init_61 : decode cX3_init 61 = .ok (.putfield 25, 3) := by decide +kernel
theorem dX3_init_64 : decode cX3_init 64 = .ok (.aload_n 0, 1) := by decide +kernel
theorem dX3_init_65 : decode cX3_init 65 = .ok (.getstatic 28, 3) := by decide +kernel
theorem dX3_init_68 : decode cX3_init 68 = .ok (.invokevirtual 31, 3) := by decide +kernel
theorem dX3_init_71 : decode cX3_init 71 = .ok (.checkcast 32, 3) := by decide +kernel
theorem dX3_init_74 : decode cX3_init 74 = .ok (.putfield 36, 3) := by decide +kernel
theorem dX3_init_77 : decode cX3_init 77 = .ok (.iconst 0, 1) := by decide +kernel
theorem dX3_init_78 : decode cX3_init 78 = .ok (.istore_n 1, 1) := by decide +kernel
theorem dX3_init_79 : decode cX3_init 79 = .ok (.iload_n 1, 1) := by decide +kernel
theorem dX3_init_80 : decode cX3_init 80 = .ok (.aload_n 0, 1) := by decide +kernel
theorem dX3_init_81 : decode cX3_init 81 = .ok (.getfield 11, 3) := by decide +kernel
theorem dX3_init_84 : decode cX3_init 84 = .ok (.arraylength, 1) := by decide +kernel
theorem dX3_init_85 : decode cX3_init 85 = .ok (.if_icmp .ge 22, 3) := by decide +kernel
theorem dX3_init_88 : decode cX3_init 88 = .ok (.aload_n 0, 1) := by decide +kernel
theorem dX3_init_89 : decode cX3_init 89 = .ok (.getfield 11, 3) := by decide +kernel
theorem dX3_init_92 : decode cX3_init 92 = .ok (.iload_n 1, 1) := by decide +kernel
theorem dX3_init_93 : decode cX3_init 93 = .ok (.new 9, 3) := by decide +kernel
theorem dX3_init_96 : decode cX3_init 96 = .ok (.dup, 1) := by decide +kernel
theorem dX3_init_97 : decode cX3_init 97 = .ok (.invokespecial 39, 3) := by decide +kernel
theorem dX3_init_100 : decode cX3_init 100 = .ok (.aastore, 1) := by decide +kernel
theorem dX3_init_101 : decode cX3_init 101 = .ok (.iinc 1 1, 3) := by decide +kernel
theorem dX3_init_104 : decode cX3_init 104 = .ok (.goto (-25), 3) := by decide +kernel
theorem dX3_init_107 : decode cX3_init 107 = .ok (.return_, 1) := by decide +kernel
set_option maxRecDepth 20000 in
theorem ggX3_copyFrom_X0_copyFrom : GoodIn wsX3_copyFrom wsX0_copyFrom := goodIn_r _ [22, 23, 24, 25, 26, 27, 28, 29, 30, 31, 5, 6, 7, 32, 46, 47, 48, 49, 50, 51, 52, 53, 54] (by decide +kernel) (by decide +kernel)
set_option maxRecDepth 20000 in
theorem gX3_copyFrom_X0_copyFrom : GoodIn wsX3_copyFrom (wsV RX3 40 RX0 yX0_copyFrom wsX0_copyFrom) := goodIn_app (goodIn_of _ (by decide +kernel)) ggX3_copyFrom_X0_copyFrom
theorem dX3_copyFrom_0 : decode cX3_copyFrom 0 = .ok (.iconst 0, 1) := by decide +kernel
theorem dX3_copyFrom_1 : decode cX3_copyFrom 1 = .ok (.istore_n 2, 1) := by decide +kernel
theorem dX3_copyFrom_2 : decode cX3_copyFrom 2 = .ok (.iload_n 2, 1) := by decide +kernel
theorem dX3_copyFrom_3 : decode cX3_copyFrom 3 = .ok (.bipush 8, 2) := by decide +kernel
theorem dX3_copyFrom_5 : decode cX3_copyFrom 5 = .ok (.if_icmp .ge 24, 3) := by decide +kernel
theorem dX3_copyFrom_8 : decode cX3_copyFrom 8 = .ok (.aload_n 0, 1) := by decide +kernel
theorem dX3_copyFrom_9 : decode cX3_copyFrom 9 = .ok (.getfield 11, 3) := by decide +kernel
theorem dX3_copyFrom_12 : decode cX3_copyFrom 12 = .ok (.iload_n 2, 1) := by decide +kernel
theorem dX3_copyFrom_13 : decode cX3_copyFrom 13 = .ok (.aaload, 1) := by decide +kernel
theorem dX3_copyFrom_14 : decode cX3_copyFrom 14 = .ok (.aload_n 1, 1) := by decide +kernel
theorem dX3_copyFrom_15 : decode cX3_copyFrom 15 = .ok (.getfield 11, 3) := by decide +kernel
theorem dX3_copyFrom_18 : decode cX3_copyFrom 18 = .ok (.iload_n 2, 1) := by decide +kernel
theorem dX3_copyFrom_19 : decode cX3_copyFrom 19 = .ok (.aaload, 1) := by decide +kernel
theorem dX3_copyFrom_20 : decode cX3_copyFrom 20 = .ok (.invokevirtual 40, 3) := by decide +kernel
theorem dX3_copyFrom_23 : decode cX3_copyFrom 23 = .ok (.iinc 2 1, 3) := by decide +kernel
theorem dX3_copyFrom_26 : decode cX3_copyFrom 26 = .ok (.goto (-24), 3) := by decide +kernel
theorem dX3_copyFrom_29 : decode cX3_copyFrom 29 = .ok (.aload_n 0, 1) := by decide +kernel
theorem dX3_copyFrom_30 : decode cX3_copyFrom 30 = .ok (.aload_n 1, 1) := by decide +kernel
theorem dX3_copyFrom_31 : decode cX3_copyFrom 31 = .ok (.getfield 17, 3) := by decide +kernel
theorem dX3_copyFrom_34 : decode cX3_copyFrom 34 = .ok (.putfield 17, 3) := by decide +kernel
theorem dX3_copyFrom_37 : decode cX3_copyFrom 37 = .ok (.aload_n 1, 1) := by decide +kernel
theorem dX3_copyFrom_38 : decode cX3_copyFrom 38 = .ok (.getfield 21, 3) := by decide +kernel
theorem dX3_copyFrom_41 : decode cX3_copyFrom 41 = .ok (.iconst 0, 1) := by decide +kernel
theorem dX3_copyFrom_42 : decode cX3_copyFrom 42 = .ok (.aload_n 0, 1) := by decide +kernel
theorem dX3_copyFrom_43 : decode cX3_copyFrom 43 = .ok (.getfield 21, 3) := by decide +kernel
theorem dX3_copyFrom_46 : decode cX3_copyFrom 46 = .ok (.iconst 0, 1) := by decide +kernel
theorem dX3_copyFrom_47 : decode cX3_copyFrom 47 = .ok (.iconst 4, 1) := by decide +kernel
theorem dX3_copyFrom_48 : decode cX3_copyFrom 48 = .ok (.invokestatic 44, 3) := by decide +kernel
theorem dX3_copyFrom_51 : decode cX3_copyFrom 51 = .ok (.aload_n 1, 1) := by decide +kernel
theorem dX3_copyFrom_52 : decode cX3_copyFrom 52 = .ok (.getfield 25, 3) := by decide +kernel
theorem dX3_copyFrom_55 : decode cX3_copyFrom 55 = .ok (.iconst 0, 1) := by decide +kernel
theorem dX3_copyFrom_56 : decode cX3_copyFrom 56 = .ok (.aload_n 0, 1) := by decide +kernel
theorem dX3_copyFrom_57 : decode cX3_copyFrom 57 = .ok (.getfield 25, 3) := by decide +kernel
theorem dX3_copyFrom_60 : decode cX3_copyFrom 60 = .ok (.iconst 0, 1) := by decide +kernel
theorem dX3_copyFrom_61 : decode cX3_copyFrom 61 = .ok (.iconst 4, 1) := by decide +kernel
theorem dX3_copyFrom_62 : decode cX3_copyFrom 62 = .ok (.invokestatic 44, 3) := by decide +kernel
theorem dX3_copyFrom_65 : decode cX3_copyFrom 65 = .ok (.aload_n 1, 1) := by decide +kernel
theorem dX3_copyFrom_66 : decode cX3_copyFrom 66 = .ok (.getfield 36, 3) := by decide +kernel
theorem dX3_copyFrom_69 : decode cX3_copyFrom 69 = .ok (.iconst 0, 1) := by decide +kernel
theorem dX3_copyFrom_70 : decode cX3_copyFrom 70 = .ok (.aload_n 0, 1) := by decide +kernel
theorem dX3_copyFrom_71 : decode cX3_copyFrom 71 = .ok (.getfield 36, 3) := by decide +kernel
theorem dX3_copyFrom_74 : decode cX3_copyFrom 74 = .ok (.iconst 0, 1) := by decide +kernel
theorem dX3_copyFrom_75 : decode cX3_copyFrom 75 = .ok (.aload_n 0, 1) := by decide +kernel
theorem dX3_copyFrom_76 : decode cX3_copyFrom 76 = .ok (.getfield 36, 3) := by decide +kernel
theorem dX3_copyFrom_79 : decode cX3_copyFrom 79 = .ok (.arraylength, 1) := by decide +kernel
theorem dX3_copyFrom_80 : decode cX3_copyFrom 80 = .ok (.invokestatic 44, 3) := by decide +kernel
theorem dX3_copyFrom_83 : decode cX3_copyFrom 83 = .ok (.aload_n 0, 1) := by decide +kernel
theorem dX3_copyFrom_84 : decode cX3_copyFrom 84 = .ok (.aload_n 1, 1) := by decide +kernel
theorem dX3_copyFrom_85 : decode cX3_copyFrom 85 = .ok (.getfield 50, 3) := by decide +kernel
theorem dX3_copyFrom_88 : decode cX3_copyFrom 88 = .ok (.putfield 50, 3) := by decide +kernel
theorem dX3_copyFrom_91 : decode cX3_copyFrom 91 = .ok (.aload_n 0, 1) := by decide +kernel
theorem dX3_copyFrom_92 : decode cX3_copyFrom 92 = .ok (.aload_n 1, 1) := by decide +kernel
theorem dX3_copyFrom_93 : decode cX3_copyFrom 93 = .ok (.getfield 53, 3) := by decide +kernel
theorem dX3_copyFrom_96 : decode cX3_copyFrom 96 = .ok (.putfield 53, 3) := by decide +kernel
theorem dX3_copyFrom_99 : decode cX3_copyFrom 99 = .ok (.aload_n 0, 1) := by decide +kernel
theorem dX3_copyFrom_100 : decode cX3_copyFrom 100 = .ok (.aload_n 1, 1) := by decide +kernel
theorem dX3_copyFrom_101 : decode cX3_copyFrom 101 = .ok (.getfield 56, 3) := by decide +kernel
theorem dX3_copyFrom_104 : decode cX3_copyFrom 104 = .ok (.putfield 56, 3) := by decide +kernel
theorem dX3_copyFrom_107 : decode cX3_copyFrom 107 = .ok (.aload_n 0, 1) := by decide +kernel
theorem dX3_copyFrom_108 : decode cX3_copyFrom 108 = .ok (.aload_n 1, 1) := by decide +kernel
theorem dX3_copyFrom_109 : decode cX3_copyFrom 109 = .ok (.getfield 59, 3) := by decide +kernel
theorem dX3_copyFrom_112 : decode cX3_copyFrom 112 = .ok (.putfield 59, 3) := by decide +kernel
theorem dX3_copyFrom_115 : decode cX3_copyFrom 115 = .ok (.aload_n 0, 1) := by decide +kernel
theorem dX3_copyFrom_116 : decode cX3_copyFrom 116 = .ok (.aload_n 1, 1) := by decide +kernel
theorem dX3_copyFrom_117 : decode cX3_copyFrom 117 = .ok (.getfield 62, 3) := by decide +kernel
theorem dX3_copyFrom_120 : decode cX3_copyFrom 120 = .ok (.putfield 62, 3) := by decide +kernel
theorem dX3_copyFrom_123 : decode cX3_copyFrom 123 = .ok (.aload_n 0, 1) := by decide +kernel
theorem dX3_copyFrom_124 : decode cX3_copyFrom 124 = .ok (.aload_n 1, 1) := by decide +kernel
theorem dX3_copyFrom_125 : decode cX3_copyFrom 125 = .ok (.getfield 65, 3) := by decide +kernel
theorem dX3_copyFrom_128 : decode cX3_copyFrom 128 = .ok (.putfield 65, 3) := by decide +kernel
theorem dX3_copyFrom_131 : decode cX3_copyFrom 131 = .ok (.aload_n 0, 1) := by decide +kernel
theorem dX3_copyFrom_132 : decode cX3_copyFrom 132 = .ok (.aload_n 1, 1) := by decide +kernel
theorem dX3_copyFrom_133 : decode cX3_copyFrom 133 = .ok (.getfield 69, 3) := by decide +kernel
theorem dX3_copyFrom_136 : decode cX3_copyFrom 136 = .ok (.putfield 69, 3) := by decide +kernel
theorem dX3_copyFrom_139 : decode cX3_copyFrom 139 = .ok (.aload_n 0, 1) := by decide +kernel
theorem dX3_copyFrom_140 : decode cX3_copyFrom 140 = .ok (.aload_n 1, 1) := by decide +kernel
theorem dX3_copyFrom_141 : decode cX3_copyFrom 141 = .ok (.getfield 72, 3) := by decide +kernel
theorem dX3_copyFrom_144 : decode cX3_copyFrom 144 = .ok (.putfield 72, 3) := by decide +kernel
theorem dX3_copyFrom_147 : decode cX3_copyFrom 147 = .ok (.return_, 1) := by decide +kernel
set_option maxRecDepth 20000 in
theorem ggX3_find_X5_isWithin : GoodIn wsX3_find wsX5_isWithin := goodIn_r _ [5] (by decide +kernel) (by decide +kernel)
set_option maxRecDepth 20000 in
theorem gX3_find_X5_isWithin_n75 : GoodIn wsX3_find (wsX5_isWithin) := ggX3_find_X5_isWithin
theorem dX3_find_0 : decode cX3_find 0 = .ok (.iload_n 1, 1) := by decide +kernel
theorem dX3_find_1 : decode cX3_find 1 = .ok (.iconst 0, 1) := by decide +kernel
theorem dX3_find_2 : decode cX3_find 2 = .ok (.aload_n 0, 1) := by decide +kernel
theorem dX3_find_3 : decode cX3_find 3 = .ok (.getfield 17, 3) := by decide +kernel
theorem dX3_find_6 : decode cX3_find 6 = .ok (.iconst 1, 1) := by decide +kernel
theorem dX3_find_7 : decode cX3_find 7 = .ok (.isub, 1) := by decide +kernel
theorem dX3_find_8 : decode cX3_find 8 = .ok (.invokestatic 75, 3) := by decide +kernel
theorem dX3_find_11 : decode cX3_find 11 = .ok (.ifCond .eq 12, 3) := by decide +kernel
theorem dX3_find_14 : decode cX3_find 14 = .ok (.aload_n 0, 1) := by decide +kernel
theorem dX3_find_15 : decode cX3_find 15 = .ok (.getfield 11, 3) := by decide +kernel
theorem dX3_find_18 : decode cX3_find 18 = .ok (.iload_n 1, 1) := by decide +kernel
theorem dX3_find_19 : decode cX3_find 19 = .ok (.aaload, 1) := by decide +kernel
theorem dX3_find_20 : decode cX3_find 20 = .ok (.goto 4, 3) := by decide +kernel
theorem dX3_find_23 : decode cX3_find 23 = .ok (.aconst_null, 1) := by decide +kernel
theorem dX3_find_24 : decode cX3_find 24 = .ok (.areturn, 1) := by decide +kernel
set_option maxRecDepth 20000 in
theorem ggX3_changeDigitCount_X0_makeNew : GoodIn wsX3_changeDigitCount wsX0_makeNew := goodIn_r _ [7, 8, 9, 10, 11, 12, 13, 14, 15, 16, 6, 17, 18, 19, 20, 42, 43, 44, 45, 46, 47, 48, 49, 50] (by decide +kernel) (by decide +kernel)
set_option maxRecDepth 20000 in
theorem gX3_changeDigitCount_X0_makeNew : GoodIn wsX3_changeDigitCount (wsV RX3 79 RX0 yX0_makeNew wsX0_makeNew) := goodIn_app (goodIn_of _ (by decide +kernel)) ggX3_changeDigitCount_X0_makeNew
set_option maxRecDepth 20000 in
theorem ggX3_changeDigitCount_X3_beginFrame : GoodIn wsX3_changeDigitCount wsX3_beginFrame := goodIn_r _ [25, 26, 27, 28, 29, 30, 31, 32, 33, 34, 35, 36, 37, 38, 39, 40, 41] (by decide +kernel) (by decide +kernel)
set_option maxRecDepth 20000 in
theorem gX3_changeDigitCount_X3_beginFrame : GoodIn wsX3_changeDigitCount (wsV RX3 82 RX3 yX3_beginFrame wsX3_beginFrame) := goodIn_app (goodIn_of _ (by decide +kernel)) ggX3_changeDigitCount_X3_beginFrame
theorem dX3_changeDigitCount_0 : decode cX3_changeDigitCount 0 = .ok (.iload_n 1, 1) := by decide +kernel
theorem dX3_changeDigitCount_1 : decode cX3_changeDigitCount 1 = .ok (.aload_n 0, 1) := by decide +kernel
theorem dX3_changeDigitCount_2 : decode cX3_changeDigitCount 2 = .ok (.getfield 17, 3) := by decide +kernel
theorem dX3_changeDigitCount_5 : decode cX3_changeDigitCount 5 = .ok (.if_icmp .ne 4, 3) := by decide +kernel
theorem dX3_changeDigitCount_8 : decode cX3_changeDigitCount 8 = .ok (.return_, 1) := by decide +kernel
theorem dX3_changeDigitCount_9 : decode cX3_changeDigitCount 9 = .ok (.aload_n 0, 1) := by decide +kernel
theorem dX3_changeDigitCount_10 : decode cX3_changeDigitCount 10 = .ok (.getfield 17, 3) := by decide +kernel
theorem dX3_changeDigitCount_13 : decode cX3_changeDigitCount 13 = .ok (.istore_n 2, 1) := by decide +kernel
theorem dX3_changeDigitCount_14 : decode cX3_changeDigitCount 14 = .ok (.iload_n 2, 1) := by decide +kernel
theorem dX3_changeDigitCount_15 : decode cX3_changeDigitCount 15 = .ok (.iload_n 1, 1) := by decide +kernel
theorem dX3_changeDigitCount_16 : decode cX3_changeDigitCount 16 = .ok (.if_icmp .ge 18, 3) := by decide +kernel
theorem dX3_changeDigitCount_19 : decode cX3_changeDigitCount 19 = .ok (.aload_n 0, 1) := by decide +kernel
theorem dX3_changeDigitCount_20 : decode cX3_changeDigitCount 20 = .ok (.getfield 11, 3) := by decide +kernel
theorem dX3_changeDigitCount_23 : decode cX3_changeDigitCount 23 = .ok (.iload_n 2, 1) := by decide +kernel
theorem dX3_changeDigitCount_24 : decode cX3_changeDigitCount 24 = .ok (.aaload, 1) := by decide +kernel
theorem dX3_changeDigitCount_25 : decode cX3_changeDigitCount 25 = .ok (.invokevirtual 79, 3) := by decide +kernel
theorem dX3_changeDigitCount_28 : decode cX3_changeDigitCount 28 = .ok (.iinc 2 1, 3) := by decide +kernel
theorem dX3_changeDigitCount_31 : decode cX3_changeDigitCount 31 = .ok (.goto (-17), 3) := by decide +kernel
theorem dX3_changeDigitCount_34 : decode cX3_changeDigitCount 34 = .ok (.aload_n 0, 1) := by decide +kernel
theorem dX3_changeDigitCount_35 : decode cX3_changeDigitCount 35 = .ok (.iload_n 1, 1) := by decide +kernel
theorem dX3_changeDigitCount_36 : decode cX3_changeDigitCount 36 = .ok (.putfield 17, 3) := by decide +kernel
theorem dX3_changeDigitCount_39 : decode cX3_changeDigitCount 39 = .ok (.aload_n 0, 1) := by decide +kernel
theorem dX3_changeDigitCount_40 : decode cX3_changeDigitCount 40 = .ok (.invokevirtual 82, 3) := by decide +kernel
theorem dX3_changeDigitCount_43 : decode cX3_changeDigitCount 43 = .ok (.return_, 1) := by decide +kernel
set_option maxRecDepth 20000 in
theorem ggX3_changeWidth_X3_beginFrame : GoodIn wsX3_changeWidth wsX3_beginFrame := goodIn_r _ [6, 7, 8, 9, 19, 20, 21, 22, 23, 24, 25, 26, 27, 28, 29, 30, 31] (by decide +kernel) (by decide +kernel)
set_option maxRecDepth 20000 in
theorem gX3_changeWidth_X3_beginFrame : GoodIn wsX3_changeWidth (wsV RX3 82 RX3 yX3_beginFrame wsX3_beginFrame) := goodIn_app (goodIn_of _ (by decide +kernel)) ggX3_changeWidth_X3_beginFrame
theorem dX3_changeWidth_0 : decode cX3_changeWidth 0 = .ok (.iload_n 2, 1) := by decide +kernel
theorem dX3_changeWidth_1 : decode cX3_changeWidth 1 = .ok (.aload_n 1, 1) := by decide +kernel
theorem dX3_changeWidth_2 : decode cX3_changeWidth 2 = .ok (.getfield 85, 3) := by decide +kernel
theorem dX3_changeWidth_5 : decode cX3_changeWidth 5 = .ok (.if_icmp .ne 4, 3) := by decide +kernel
theorem dX3_changeWidth_8 : decode cX3_changeWidth 8 = .ok (.return_, 1) := by decide +kernel
theorem dX3_changeWidth_9 : decode cX3_changeWidth 9 = .ok (.aload_n 1, 1) := by decide +kernel
theorem dX3_changeWidth_10 : decode cX3_changeWidth 10 = .ok (.iload_n 2, 1) := by decide +kernel
theorem dX3_changeWidth_11 : decode cX3_changeWidth 11 = .ok (.putfield 85, 3) := by decide +kernel
theorem dX3_changeWidth_14 : decode cX3_changeWidth 14 = .ok (.aload_n 0, 1) := by decide +kernel
theorem dX3_changeWidth_15 : decode cX3_changeWidth 15 = .ok (.invokevirtual 82, 3) := by decide +kernel
theorem dX3_changeWidth_18 : decode cX3_changeWidth 18 = .ok (.return_, 1) := by decide +kernel
theorem dX3_beginFrame_0 : decode cX3_beginFrame 0 = .ok (.aload_n 0, 1) := by decide +kernel
theorem dX3_beginFrame_1 : decode cX3_beginFrame 1 = .ok (.dup, 1) := by decide +kernel
theorem dX3_beginFrame_2 : decode cX3_beginFrame 2 = .ok (.getfield 53, 3) := by decide +kernel
theorem dX3_beginFrame_5 : decode cX3_beginFrame 5 = .ok (.iconst 1, 1) := by decide +kernel
theorem dX3_beginFrame_6 : decode cX3_beginFrame 6 = .ok (.iadd, 1) := by decide +kernel
theorem dX3_beginFrame_7 : decode cX3_beginFrame 7 = .ok (.putfield 53, 3) := by decide +kernel
theorem dX3_beginFrame_10 : decode cX3_beginFrame 10 = .ok (.aload_n 0, 1) := by decide +kernel
theorem dX3_beginFrame_11 : decode cX3_beginFrame 11 = .ok (.iconst 0, 1) := by decide +kernel
theorem dX3_beginFrame_12 : decode cX3_beginFrame 12 = .ok (.putfield 56, 3) := by decide +kernel
theorem dX3_beginFrame_15 : decode cX3_beginFrame 15 = .ok (.aload_n 0, 1) := by decide +kernel
theorem dX3_beginFrame_16 : decode cX3_beginFrame 16 = .ok (.getfield 59, 3) := by decide +kernel
theorem dX3_beginFrame_19 : decode cX3_beginFrame 19 = .ok (.ifCond .le 13, 3) := by decide +kernel
theorem dX3_beginFrame_22 : decode cX3_beginFrame 22 = .ok (.aload_n 0, 1) := by decide +kernel
theorem dX3_beginFrame_23 : decode cX3_beginFrame 23 = .ok (.dup, 1) := by decide +kernel
theorem dX3_beginFrame_24 : decode cX3_beginFrame 24 = .ok (.getfield 59, 3) := by decide +kernel
theorem dX3_beginFrame_27 : decode cX3_beginFrame 27 = .ok (.iconst 1, 1) := by decide +kernel
theorem dX3_beginFrame_28 : decode cX3_beginFrame 28 = .ok (.isub, 1) := by decide +kernel
theorem dX3_beginFrame_29 : decode cX3_beginFrame 29 = .ok (.putfield 59, 3) := by decide +kernel
theorem dX3_beginFrame_32 : decode cX3_beginFrame 32 = .ok (.return_, 1) := by decide +kernel
theorem dX3_takePatterns_0 : decode cX3_takePatterns 0 = .ok (.iconst 0, 1) := by decide +kernel
theorem dX3_takePatterns_1 : decode cX3_takePatterns 1 = .ok (.istore_n 2, 1) := by decide +kernel
theorem dX3_takePatterns_2 : decode cX3_takePatterns 2 = .ok (.iload_n 2, 1) := by decide +kernel
theorem dX3_takePatterns_3 : decode cX3_takePatterns 3 = .ok (.aload_n 0, 1) := by decide +kernel
theorem dX3_takePatterns_4 : decode cX3_takePatterns 4 = .ok (.getfield 17, 3) := by decide +kernel
theorem dX3_takePatterns_7 : decode cX3_takePatterns 7 = .ok (.if_icmp .ge 27, 3) := by decide +kernel
theorem dX3_takePatterns_10 : decode cX3_takePatterns 10 = .ok (.iload_n 2, 1) := by decide +kernel
theorem dX3_takePatterns_11 : decode cX3_takePatterns 11 = .ok (.aload_n 1, 1) := by decide +kernel
theorem dX3_takePatterns_12 : decode cX3_takePatterns 12 = .ok (.arraylength, 1) := by decide +kernel
theorem dX3_takePatterns_13 : decode cX3_takePatterns 13 = .ok (.if_icmp .ge 21, 3) := by decide +kernel
theorem dX3_takePatterns_16 : decode cX3_takePatterns 16 = .ok (.aload_n 0, 1) := by decide +kernel
theorem dX3_takePatterns_17 : decode cX3_takePatterns 17 = .ok (.getfield 11, 3) := by decide +kernel
theorem dX3_takePatterns_20 : decode cX3_takePatterns 20 = .ok (.iload_n 2, 1) := by decide +kernel
theorem dX3_takePatterns_21 : decode cX3_takePatterns 21 = .ok (.aaload, 1) := by decide +kernel
theorem dX3_takePatterns_22 : decode cX3_takePatterns 22 = .ok (.aload_n 1, 1) := by decide +kernel
theorem dX3_takePatterns_23 : decode cX3_takePatterns 23 = .ok (.iload_n 2, 1) := by decide +kernel
theorem dX3_takePatterns_24 : decode cX3_takePatterns 24 = .ok (.iaload, 1) := by decide +kernel
theorem dX3_takePatterns_25 : decode cX3_takePatterns 25 = .ok (.putfield 88, 3) := by decide +kernel
theorem dX3_takePatterns_28 : decode cX3_takePatterns 28 = .ok (.iinc 2 1, 3) := by decide +kernel
theorem dX3_takePatterns_31 : decode cX3_takePatterns 31 = .ok (.goto (-29), 3) := by decide +kernel
theorem dX3_takePatterns_34 : decode cX3_takePatterns 34 = .ok (.return_, 1) := by decide +kernel
set_option maxRecDepth 20000 in
theorem ggX3_frameLength_X3_slotStart : GoodIn wsX3_frameLength wsX3_slotStart := goodIn_r _ [6, 7, 8, 9, 10, 11, 12, 13, 14, 15, 16, 17, 18, 19, 20, 21, 22, 23, 24, 25, 26, 27, 28, 29, 30] (by decide +kernel) (by decide +kernel)
set_option maxRecDepth 20000 in
theorem gX3_frameLength_X3_slotStart : GoodIn wsX3_frameLength (wsV RX3 91 RX3 yX3_slotStart wsX3_slotStart) := goodIn_app (goodIn_of _ (by decide +kernel)) ggX3_frameLength_X3_slotStart
theorem dX3_frameLength_0 : decode cX3_frameLength 0 = .ok (.aload_n 0, 1) := by decide +kernel
theorem dX3_frameLength_1 : decode cX3_frameLength 1 = .ok (.aload_n 0, 1) := by decide +kernel
theorem dX3_frameLength_2 : decode cX3_frameLength 2 = .ok (.getfield 17, 3) := by decide +kernel
theorem dX3_frameLength_5 : decode cX3_frameLength 5 = .ok (.invokevirtual 91, 3) := by decide +kernel
theorem dX3_frameLength_8 : decode cX3_frameLength 8 = .ok (.ireturn, 1) := by decide +kernel
theorem dX3_slotStart_0 : decode cX3_slotStart 0 = .ok (.iconst 0, 1) := by decide +kernel
theorem dX3_slotStart_1 : decode cX3_slotStart 1 = .ok (.istore_n 2, 1) := by decide +kernel
theorem dX3_slotStart_2 : decode cX3_slotStart 2 = .ok (.iconst 0, 1) := by decide +kernel
theorem dX3_slotStart_3 : decode cX3_slotStart 3 = .ok (.istore_n 3, 1) := by decide +kernel
theorem dX3_slotStart_4 : decode cX3_slotStart 4 = .ok (.iload_n 3, 1) := by decide +kernel
theorem dX3_slotStart_5 : decode cX3_slotStart 5 = .ok (.iload_n 1, 1) := by decide +kernel
theorem dX3_slotStart_6 : decode cX3_slotStart 6 = .ok (.if_icmp .ge 21, 3) := by decide +kernel
theorem dX3_slotStart_9 : decode cX3_slotStart 9 = .ok (.iload_n 2, 1) := by decide +kernel
theorem dX3_slotStart_10 : decode cX3_slotStart 10 = .ok (.aload_n 0, 1) := by decide +kernel
theorem dX3_slotStart_11 : decode cX3_slotStart 11 = .ok (.getfield 11, 3) := by decide +kernel
theorem dX3_slotStart_14 : decode cX3_slotStart 14 = .ok (.iload_n 3, 1) := by decide +kernel
theorem dX3_slotStart_15 : decode cX3_slotStart 15 = .ok (.aaload, 1) := by decide +kernel
theorem dX3_slotStart_16 : decode cX3_slotStart 16 = .ok (.getfield 85, 3) := by decide +kernel
theorem dX3_slotStart_19 : decode cX3_slotStart 19 = .ok (.iadd, 1) := by decide +kernel
theorem dX3_slotStart_20 : decode cX3_slotStart 20 = .ok (.istore_n 2, 1) := by decide +kernel
theorem dX3_slotStart_21 : decode cX3_slotStart 21 = .ok (.iinc 3 1, 3) := by decide +kernel
theorem dX3_slotStart_24 : decode cX3_slotStart 24 = .ok (.goto (-20), 3) := by decide +kernel
theorem dX3_slotStart_27 : decode cX3_slotStart 27 = .ok (.iload_n 2, 1) := by decide +kernel
theorem dX3_slotStart_28 : decode cX3_slotStart 28 = .ok (.ireturn, 1) := by decide +kernel
theorem dX3_slotNow_0 : decode cX3_slotNow 0 = .ok (.iconst 0, 1) := by decide +kernel
theorem dX3_slotNow_1 : decode cX3_slotNow 1 = .ok (.istore_n 1, 1) := by decide +kernel
theorem dX3_slotNow_2 : decode cX3_slotNow 2 = .ok (.aload_n 0, 1) := by decide +kernel
theorem dX3_slotNow_3 : decode cX3_slotNow 3 = .ok (.getfield 11, 3) := by decide +kernel
theorem dX3_slotNow_6 : decode cX3_slotNow 6 = .ok (.iconst 0, 1) := by decide +kernel
theorem dX3_slotNow_7 : decode cX3_slotNow 7 = .ok (.aaload, 1) := by decide +kernel
theorem dX3_slotNow_8 : decode cX3_slotNow 8 = .ok (.getfield 85, 3) := by decide +kernel
theorem dX3_slotNow_11 : decode cX3_slotNow 11 = .ok (.istore_n 2, 1) := by decide +kernel
theorem dX3_slotNow_12 : decode cX3_slotNow 12 = .ok (.iload_n 1, 1) := by decide +kernel
theorem dX3_slotNow_13 : decode cX3_slotNow 13 = .ok (.aload_n 0, 1) := by decide +kernel
theorem dX3_slotNow_14 : decode cX3_slotNow 14 = .ok (.getfield 17, 3) := by decide +kernel
theorem dX3_slotNow_17 : decode cX3_slotNow 17 = .ok (.iconst 1, 1) := by decide +kernel
theorem dX3_slotNow_18 : decode cX3_slotNow 18 = .ok (.isub, 1) := by decide +kernel
theorem dX3_slotNow_19 : decode cX3_slotNow 19 = .ok (.if_icmp .ge 29, 3) := by decide +kernel
theorem dX3_slotNow_22 : decode cX3_slotNow 22 = .ok (.aload_n 0, 1) := by decide +kernel
theorem dX3_slotNow_23 : decode cX3_slotNow 23 = .ok (.getfield 56, 3) := by decide +kernel
theorem dX3_slotNow_26 : decode cX3_slotNow 26 = .ok (.iload_n 2, 1) := by decide +kernel
theorem dX3_slotNow_27 : decode cX3_slotNow 27 = .ok (.if_icmp .lt 21, 3) := by decide +kernel
theorem dX3_slotNow_30 : decode cX3_slotNow 30 = .ok (.iinc 1 1, 3) := by decide +kernel
theorem dX3_slotNow_33 : decode cX3_slotNow 33 = .ok (.iload_n 2, 1) := by decide +kernel
theorem dX3_slotNow_34 : decode cX3_slotNow 34 = .ok (.aload_n 0, 1) := by decide +kernel
theorem dX3_slotNow_35 : decode cX3_slotNow 35 = .ok (.getfield 11, 3) := by decide +kernel
theorem dX3_slotNow_38 : decode cX3_slotNow 38 = .ok (.iload_n 1, 1) := by decide +kernel
theorem dX3_slotNow_39 : decode cX3_slotNow 39 = .ok (.aaload, 1) := by decide +kernel
theorem dX3_slotNow_40 : decode cX3_slotNow 40 = .ok (.getfield 85, 3) := by decide +kernel
theorem dX3_slotNow_43 : decode cX3_slotNow 43 = .ok (.iadd, 1) := by decide +kernel
theorem dX3_slotNow_44 : decode cX3_slotNow 44 = .ok (.istore_n 2, 1) := by decide +kernel
theorem dX3_slotNow_45 : decode cX3_slotNow 45 = .ok (.goto (-33), 3) := by decide +kernel
theorem dX3_slotNow_48 : decode cX3_slotNow 48 = .ok (.iload_n 1, 1) := by decide +kernel
theorem dX3_slotNow_49 : decode cX3_slotNow 49 = .ok (.ireturn, 1) := by decide +kernel
theorem dX3_isGroupOn_0 : decode cX3_isGroupOn 0 = .ok (.aload_n 0, 1) := by decide +kernel
theorem dX3_isGroupOn_1 : decode cX3_isGroupOn 1 = .ok (.getfield 21, 3) := by decide +kernel
theorem dX3_isGroupOn_4 : decode cX3_isGroupOn 4 = .ok (.iload_n 1, 1) := by decide +kernel
theorem dX3_isGroupOn_5 : decode cX3_isGroupOn 5 = .ok (.iaload, 1) := by decide +kernel
theorem dX3_isGroupOn_6 : decode cX3_isGroupOn 6 = .ok (.aload_n 0, 1) := by decide +kernel
theorem dX3_isGroupOn_7 : decode cX3_isGroupOn 7 = .ok (.getfield 25, 3) := by decide +kernel
theorem dX3_isGroupOn_10 : decode cX3_isGroupOn 10 = .ok (.iload_n 1, 1) := by decide +kernel
theorem dX3_isGroupOn_11 : decode cX3_isGroupOn 11 = .ok (.iaload, 1) := by decide +kernel
theorem dX3_isGroupOn_12 : decode cX3_isGroupOn 12 = .ok (.iadd, 1) := by decide +kernel
theorem dX3_isGroupOn_13 : decode cX3_isGroupOn 13 = .ok (.istore_n 2, 1) := by decide +kernel
theorem dX3_isGroupOn_14 : decode cX3_isGroupOn 14 = .ok (.iload_n 2, 1) := by decide +kernel
theorem dX3_isGroupOn_15 : decode cX3_isGroupOn 15 = .ok (.ifCond .le 18, 3) := by decide +kernel
theorem dX3_isGroupOn_18 : decode cX3_isGroupOn 18 = .ok (.aload_n 0, 1) := by decide +kernel
theorem dX3_isGroupOn_19 : decode cX3_isGroupOn 19 = .ok (.getfield 53, 3) := by decide +kernel
theorem dX3_isGroupOn_22 : decode cX3_isGroupOn 22 = .ok (.iload_n 2, 1) := by decide +kernel
theorem dX3_isGroupOn_23 : decode cX3_isGroupOn 23 = .ok (.irem, 1) := by decide +kernel
theorem dX3_isGroupOn_24 : decode cX3_isGroupOn 24 = .ok (.aload_n 0, 1) := by decide +kernel
theorem dX3_isGroupOn_25 : decode cX3_isGroupOn 25 = .ok (.getfield 21, 3) := by decide +kernel
theorem dX3_isGroupOn_28 : decode cX3_isGroupOn 28 = .ok (.iload_n 1, 1) := by decide +kernel
theorem dX3_isGroupOn_29 : decode cX3_isGroupOn 29 = .ok (.iaload, 1) := by decide +kernel
theorem dX3_isGroupOn_30 : decode cX3_isGroupOn 30 = .ok (.if_icmp .ge 7, 3) := by decide +kernel
theorem dX3_isGroupOn_33 : decode cX3_isGroupOn 33 = .ok (.iconst 1, 1) := by decide +kernel
theorem dX3_isGroupOn_34 : decode cX3_isGroupOn 34 = .ok (.goto 4, 3) := by decide +kernel
theorem dX3_isGroupOn_37 : decode cX3_isGroupOn 37 = .ok (.iconst 0, 1) := by decide +kernel
theorem dX3_isGroupOn_38 : decode cX3_isGroupOn 38 = .ok (.ireturn, 1) := by decide +kernel
theorem dX3_digitsInGroup_0 : decode cX3_digitsInGroup 0 = .ok (.iconst 0, 1) := by decide +kernel
theorem dX3_digitsInGroup_1 : decode cX3_digitsInGroup 1 = .ok (.istore_n 2, 1) := by decide +kernel
theorem dX3_digitsInGroup_2 : decode cX3_digitsInGroup 2 = .ok (.iconst 0, 1) := by decide +kernel
theorem dX3_digitsInGroup_3 : decode cX3_digitsInGroup 3 = .ok (.istore_n 3, 1) := by decide +kernel
theorem dX3_digitsInGroup_4 : decode cX3_digitsInGroup 4 = .ok (.iload_n 3, 1) := by decide +kernel
theorem dX3_digitsInGroup_5 : decode cX3_digitsInGroup 5 = .ok (.aload_n 0, 1) := by decide +kernel
theorem dX3_digitsInGroup_6 : decode cX3_digitsInGroup 6 = .ok (.getfield 17, 3) := by decide +kernel
theorem dX3_digitsInGroup_9 : decode cX3_digitsInGroup 9 = .ok (.if_icmp .ge 25, 3) := by decide +kernel
theorem dX3_digitsInGroup_12 : decode cX3_digitsInGroup 12 = .ok (.aload_n 0, 1) := by decide +kernel
theorem dX3_digitsInGroup_13 : decode cX3_digitsInGroup 13 = .ok (.getfield 11, 3) := by decide +kernel
theorem dX3_digitsInGroup_16 : decode cX3_digitsInGroup 16 = .ok (.iload_n 3, 1) := by decide +kernel
theorem dX3_digitsInGroup_17 : decode cX3_digitsInGroup 17 = .ok (.aaload, 1) := by decide +kernel
theorem dX3_digitsInGroup_18 : decode cX3_digitsInGroup 18 = .ok (.getfield 95, 3) := by decide +kernel
theorem dX3_digitsInGroup_21 : decode cX3_digitsInGroup 21 = .ok (.iload_n 1, 1) := by decide +kernel
theorem dX3_digitsInGroup_22 : decode cX3_digitsInGroup 22 = .ok (.if_icmp .ne 6, 3) := by decide +kernel
theorem dX3_digitsInGroup_25 : decode cX3_digitsInGroup 25 = .ok (.iinc 2 1, 3) := by decide +kernel
theorem dX3_digitsInGroup_28 : decode cX3_digitsInGroup 28 = .ok (.iinc 3 1, 3) := by decide +kernel
theorem dX3_digitsInGroup_31 : decode cX3_digitsInGroup 31 = .ok (.goto (-27), 3) := by decide +kernel
theorem dX3_digitsInGroup_34 : decode cX3_digitsInGroup 34 = .ok (.iload_n 2, 1) := by decide +kernel
theorem dX3_digitsInGroup_35 : decode cX3_digitsInGroup 35 = .ok (.ireturn, 1) := by decide +kernel
set_option maxRecDepth 20000 in
theorem ggX3_brokenSegments_J6_bitCount_0f7a4 : GoodIn wsX3_brokenSegments wsJ6_bitCount_0f7a4 := goodIn_r _ [7, 8, 9, 10] (by decide +kernel) (by decide +kernel)
set_option maxRecDepth 20000 in
theorem gX3_brokenSegments_J6_bitCount_0f7a4 : GoodIn wsX3_brokenSegments (va_wsS RX3 101 yJ6_bitCount_0f7a4 wsJ6_bitCount_0f7a4) := goodIn_app (goodIn_of _ (by decide +kernel)) ggX3_brokenSegments_J6_bitCount_0f7a4
theorem dX3_brokenSegments_0 : decode cX3_brokenSegments 0 = .ok (.iconst 0, 1) := by decide +kernel
theorem dX3_brokenSegments_1 : decode cX3_brokenSegments 1 = .ok (.istore_n 1, 1) := by decide +kernel
theorem dX3_brokenSegments_2 : decode cX3_brokenSegments 2 = .ok (.iconst 0, 1) := by decide +kernel
theorem dX3_brokenSegments_3 : decode cX3_brokenSegments 3 = .ok (.istore_n 2, 1) := by decide +kernel
theorem dX3_brokenSegments_4 : decode cX3_brokenSegments 4 = .ok (.iload_n 2, 1) := by decide +kernel
theorem dX3_brokenSegments_5 : decode cX3_brokenSegments 5 = .ok (.aload_n 0, 1) := by decide +kernel
theorem dX3_brokenSegments_6 : decode cX3_brokenSegments 6 = .ok (.getfield 17, 3) := by decide +kernel
theorem dX3_brokenSegments_9 : decode cX3_brokenSegments 9 = .ok (.if_icmp .ge 24, 3) := by decide +kernel
theorem dX3_brokenSegments_12 : decode cX3_brokenSegments 12 = .ok (.iload_n 1, 1) := by decide +kernel
theorem dX3_brokenSegments_13 : decode cX3_brokenSegments 13 = .ok (.aload_n 0, 1) := by decide +kernel
theorem dX3_brokenSegments_14 : decode cX3_brokenSegments 14 = .ok (.getfield 11, 3) := by decide +kernel
theorem dX3_brokenSegments_17 : decode cX3_brokenSegments 17 = .ok (.iload_n 2, 1) := by decide +kernel
theorem dX3_brokenSegments_18 : decode cX3_brokenSegments 18 = .ok (.aaload, 1) := by decide +kernel
theorem dX3_brokenSegments_19 : decode cX3_brokenSegments 19 = .ok (.getfield 98, 3) := by decide +kernel
theorem dX3_brokenSegments_22 : decode cX3_brokenSegments 22 = .ok (.invokestatic 101, 3) := by decide +kernel
theorem dX3_brokenSegments_25 : decode cX3_brokenSegments 25 = .ok (.iadd, 1) := by decide +kernel
theorem dX3_brokenSegments_26 : decode cX3_brokenSegments 26 = .ok (.istore_n 1, 1) := by decide +kernel
theorem dX3_brokenSegments_27 : decode cX3_brokenSegments 27 = .ok (.iinc 2 1, 3) := by decide +kernel
theorem dX3_brokenSegments_30 : decode cX3_brokenSegments 30 = .ok (.goto (-26), 3) := by decide +kernel
theorem dX3_brokenSegments_33 : decode cX3_brokenSegments 33 = .ok (.iload_n 1, 1) := by decide +kernel
theorem dX3_brokenSegments_34 : decode cX3_brokenSegments 34 = .ok (.ireturn, 1) := by decide +kernel
set_option maxRecDepth 20000 in
theorem ggX3_isDriven_X0_litPartAt : GoodIn wsX3_isDriven wsX0_litPartAt := goodIn_r _ [10, 11, 12, 39, 40, 41, 42, 43, 44, 45, 46, 47] (by decide +kernel) (by decide +kernel)
set_option maxRecDepth 20000 in
theorem gX3_isDriven_X0_litPartAt : GoodIn wsX3_isDriven (wsV RX3 109 RX0 yX0_litPartAt wsX0_litPartAt) := goodIn_app (goodIn_of _ (by decide +kernel)) ggX3_isDriven_X0_litPartAt
set_option maxRecDepth 20000 in
theorem ggX3_isDriven_X3_slotStart : GoodIn wsX3_isDriven wsX3_slotStart := goodIn_r _ [17, 1, 18, 26, 27, 28, 29, 30, 31, 32, 33, 34, 35, 36, 37, 38, 39, 40, 41, 42, 43, 44, 45, 46, 47] (by decide +kernel) (by decide +kernel)
set_option maxRecDepth 20000 in
theorem gX3_isDriven_X3_slotStart : GoodIn wsX3_isDriven (wsV RX3 91 RX3 yX3_slotStart wsX3_slotStart) := goodIn_app (goodIn_of _ (by decide +kernel)) ggX3_isDriven_X3_slotStart
set_option maxRecDepth 20000 in
theorem ggX3_isDriven_X3_isGroupOn : GoodIn wsX3_isDriven wsX3_isGroupOn := goodIn_r _ [22, 23, 24, 25, 26, 27, 28, 29, 30, 31, 32, 33, 34, 35, 36, 37, 38] (by decide +kernel) (by decide +kernel)
set_option maxRecDepth 20000 in
theorem gX3_isDriven_X3_isGroupOn : GoodIn wsX3_isDriven (wsV RX3 112 RX3 yX3_isGroupOn wsX3_isGroupOn) := goodIn_app (goodIn_of _ (by decide +kernel)) ggX3_isDriven_X3_isGroupOn
theorem dX3_isDriven_0 : decode cX3_isDriven 0 = .ok (.aload_n 0, 1) := by decide +kernel
theorem dX3_isDriven_1 : decode cX3_isDriven 1 = .ok (.getfield 11, 3) := by decide +kernel
theorem dX3_isDriven_4 : decode cX3_isDriven 4 = .ok (.iload_n 1, 1) := by decide +kernel
theorem dX3_isDriven_5 : decode cX3_isDriven 5 = .ok (.aaload, 1) := by decide +kernel
theorem dX3_isDriven_6 : decode cX3_isDriven 6 = .ok (.astore_n 2, 1) := by decide +kernel
theorem dX3_isDriven_7 : decode cX3_isDriven 7 = .ok (.aload_n 0, 1) := by decide +kernel
theorem dX3_isDriven_8 : decode cX3_isDriven 8 = .ok (.getfield 59, 3) := by decide +kernel
theorem dX3_isDriven_11 : decode cX3_isDriven 11 = .ok (.ifCond .le 7, 3) := by decide +kernel
theorem dX3_isDriven_14 : decode cX3_isDriven 14 = .ok (.iconst 1, 1) := by decide +kernel
theorem dX3_isDriven_15 : decode cX3_isDriven 15 = .ok (.goto 4, 3) := by decide +kernel
theorem dX3_isDriven_18 : decode cX3_isDriven 18 = .ok (.iconst 0, 1) := by decide +kernel
theorem dX3_isDriven_19 : decode cX3_isDriven 19 = .ok (.istore_n 3, 1) := by decide +kernel
theorem dX3_isDriven_20 : decode cX3_isDriven 20 = .ok (.aload_n 2, 1) := by decide +kernel
theorem dX3_isDriven_21 : decode cX3_isDriven 21 = .ok (.iload_n 3, 1) := by decide +kernel
theorem dX3_isDriven_22 : decode cX3_isDriven 22 = .ok (.ifCond .eq 8, 3) := by decide +kernel
theorem dX3_isDriven_25 : decode cX3_isDriven 25 = .ok (.bipush 15, 2) := by decide +kernel
theorem dX3_isDriven_27 : decode cX3_isDriven 27 = .ok (.goto 7, 3) := by decide +kernel
theorem dX3_isDriven_30 : decode cX3_isDriven 30 = .ok (.aload_n 2, 1) := by decide +kernel
theorem dX3_isDriven_31 : decode cX3_isDriven 31 = .ok (.getfield 106, 3) := by decide +kernel
theorem dX3_isDriven_34 : decode cX3_isDriven 34 = .ok (.invokevirtual 109, 3) := by decide +kernel
theorem dX3_isDriven_37 : decode cX3_isDriven 37 = .ok (.istore 4, 2) := by decide +kernel
theorem dX3_isDriven_39 : decode cX3_isDriven 39 = .ok (.aload_n 0, 1) := by decide +kernel
theorem dX3_isDriven_40 : decode cX3_isDriven 40 = .ok (.getfield 56, 3) := by decide +kernel
theorem dX3_isDriven_43 : decode cX3_isDriven 43 = .ok (.aload_n 0, 1) := by decide +kernel
theorem dX3_isDriven_44 : decode cX3_isDriven 44 = .ok (.iload_n 1, 1) := by decide +kernel
theorem dX3_isDriven_45 : decode cX3_isDriven 45 = .ok (.invokevirtual 91, 3) := by decide +kernel
theorem dX3_isDriven_48 : decode cX3_isDriven 48 = .ok (.isub, 1) := by decide +kernel
theorem dX3_isDriven_49 : decode cX3_isDriven 49 = .ok (.iload 4, 2) := by decide +kernel
theorem dX3_isDriven_51 : decode cX3_isDriven 51 = .ok (.if_icmp .ge 22, 3) := by decide +kernel
theorem dX3_isDriven_54 : decode cX3_isDriven 54 = .ok (.iload_n 3, 1) := by decide +kernel
theorem dX3_isDriven_55 : decode cX3_isDriven 55 = .ok (.ifCond .ne 14, 3) := by decide +kernel
theorem dX3_isDriven_58 : decode cX3_isDriven 58 = .ok (.aload_n 0, 1) := by decide +kernel
theorem dX3_isDriven_59 : decode cX3_isDriven 59 = .ok (.aload_n 2, 1) := by decide +kernel
theorem dX3_isDriven_60 : decode cX3_isDriven 60 = .ok (.getfield 95, 3) := by decide +kernel
theorem dX3_isDriven_63 : decode cX3_isDriven 63 = .ok (.invokevirtual 112, 3) := by decide +kernel
theorem dX3_isDriven_66 : decode cX3_isDriven 66 = .ok (.ifCond .eq 7, 3) := by decide +kernel
theorem dX3_isDriven_69 : decode cX3_isDriven 69 = .ok (.iconst 1, 1) := by decide +kernel
theorem dX3_isDriven_70 : decode cX3_isDriven 70 = .ok (.goto 4, 3) := by decide +kernel
theorem dX3_isDriven_73 : decode cX3_isDriven 73 = .ok (.iconst 0, 1) := by decide +kernel
theorem dX3_isDriven_74 : decode cX3_isDriven 74 = .ok (.ireturn, 1) := by decide +kernel
set_option maxRecDepth 20000 in
theorem ggX3_litNext_X3_slotNow : GoodIn wsX3_litNext wsX3_slotNow := goodIn_r _ [9, 2, 10, 11, 12, 37, 38, 39, 40, 41, 42, 43, 44, 45, 46, 47, 48, 49, 50, 51, 52, 53, 54, 55, 56, 57, 58] (by decide +kernel) (by decide +kernel)
set_option maxRecDepth 20000 in
theorem gX3_litNext_X3_slotNow : GoodIn wsX3_litNext (wsV RX3 116 RX3 yX3_slotNow wsX3_slotNow) := goodIn_app (goodIn_of _ (by decide +kernel)) ggX3_litNext_X3_slotNow
set_option maxRecDepth 20000 in
theorem ggX3_litNext_X3_isDriven : GoodIn wsX3_litNext wsX3_isDriven := goodIn_r _ [16, 2, 1, 17, 12, 18, 19, 20, 21, 22, 23, 24, 25, 26, 27, 28, 8, 29, 10, 30, 31, 32, 33, 34, 35, 36, 37, 38, 39, 40, 41, 42, 43, 44, 45, 46, 47, 48, 49, 50, 51, 52, 53, 54, 55, 56, 57, 58] (by decide +kernel) (by decide +kernel)
set_option maxRecDepth 20000 in
theorem gX3_litNext_X3_isDriven : GoodIn wsX3_litNext (wsV RX3 120 RX3 yX3_isDriven wsX3_isDriven) := goodIn_app (goodIn_of _ (by decide +kernel)) ggX3_litNext_X3_isDriven
theorem dX3_litNext_0 : decode cX3_litNext 0 = .ok (.aload_n 0, 1) := by decide +kernel
theorem dX3_litNext_1 : decode cX3_litNext 1 = .ok (.invokevirtual 116, 3) := by decide +kernel
theorem dX3_litNext_4 : decode cX3_litNext 4 = .ok (.istore_n 1, 1) := by decide +kernel
theorem dX3_litNext_5 : decode cX3_litNext 5 = .ok (.aload_n 0, 1) := by decide +kernel
theorem dX3_litNext_6 : decode cX3_litNext 6 = .ok (.iload_n 1, 1) := by decide +kernel
theorem dX3_litNext_7 : decode cX3_litNext 7 = .ok (.invokevirtual 120, 3) := by decide +kernel
theorem dX3_litNext_10 : decode cX3_litNext 10 = .ok (.ifCond .ne 5, 3) := by decide +kernel
theorem dX3_litNext_13 : decode cX3_litNext 13 = .ok (.iconst 0, 1) := by decide +kernel
theorem dX3_litNext_14 : decode cX3_litNext 14 = .ok (.ireturn, 1) := by decide +kernel
theorem dX3_litNext_15 : decode cX3_litNext 15 = .ok (.aload_n 0, 1) := by decide +kernel
theorem dX3_litNext_16 : decode cX3_litNext 16 = .ok (.getfield 59, 3) := by decide +kernel
theorem dX3_litNext_19 : decode cX3_litNext 19 = .ok (.ifCond .le 9, 3) := by decide +kernel
theorem dX3_litNext_22 : decode cX3_litNext 22 = .ok (.sipush 255, 3) := by decide +kernel
theorem dX3_litNext_25 : decode cX3_litNext 25 = .ok (.goto 12, 3) := by decide +kernel
theorem dX3_litNext_28 : decode cX3_litNext 28 = .ok (.aload_n 0, 1) := by decide +kernel
theorem dX3_litNext_29 : decode cX3_litNext 29 = .ok (.getfield 11, 3) := by decide +kernel
theorem dX3_litNext_32 : decode cX3_litNext 32 = .ok (.iload_n 1, 1) := by decide +kernel
theorem dX3_litNext_33 : decode cX3_litNext 33 = .ok (.aaload, 1) := by decide +kernel
theorem dX3_litNext_34 : decode cX3_litNext 34 = .ok (.getfield 88, 3) := by decide +kernel
theorem dX3_litNext_37 : decode cX3_litNext 37 = .ok (.istore_n 2, 1) := by decide +kernel
theorem dX3_litNext_38 : decode cX3_litNext 38 = .ok (.iload_n 2, 1) := by decide +kernel
theorem dX3_litNext_39 : decode cX3_litNext 39 = .ok (.aload_n 0, 1) := by decide +kernel
theorem dX3_litNext_40 : decode cX3_litNext 40 = .ok (.getfield 11, 3) := by decide +kernel
theorem dX3_litNext_43 : decode cX3_litNext 43 = .ok (.iload_n 1, 1) := by decide +kernel
theorem dX3_litNext_44 : decode cX3_litNext 44 = .ok (.aaload, 1) := by decide +kernel
theorem dX3_litNext_45 : decode cX3_litNext 45 = .ok (.getfield 98, 3) := by decide +kernel
theorem dX3_litNext_48 : decode cX3_litNext 48 = .ok (.iconst (-1), 1) := by decide +kernel
theorem dX3_litNext_49 : decode cX3_litNext 49 = .ok (.ixor, 1) := by decide +kernel
theorem dX3_litNext_50 : decode cX3_litNext 50 = .ok (.iand, 1) := by decide +kernel
theorem dX3_litNext_51 : decode cX3_litNext 51 = .ok (.ireturn, 1) := by decide +kernel
set_option maxRecDepth 20000 in
theorem ggX3_runTicks_X3_runTick : GoodIn wsX3_runTicks wsX3_runTick := goodIn_r _ [5, 6, 7, 8, 9, 10, 11, 12, 13, 14, 15, 4, 16, 17, 18, 19, 20, 21, 22, 23, 24, 25, 26, 27, 28, 29, 30, 31, 32, 33, 34, 35, 36, 37, 38, 39, 40, 41, 42, 43, 44, 45, 46, 47, 48, 49, 50, 51, 52, 53, 54, 55, 56, 57, 58, 59, 60, 61, 62, 63, 64, 65, 66, 67, 68, 69, 70, 71, 72, 73, 74, 75, 76, 77, 78, 79, 80, 81, 82, 83, 84, 85, 86, 87, 88, 89, 90, 91, 92, 93, 94, 95, 96, 97, 98, 99, 100, 101, 102, 103, 104, 105, 106, 107, 108, 109, 110, 111, 112, 113, 114] (by decide +kernel) (by decide +kernel)
set_option maxRecDepth 20000 in
theorem gX3_runTicks_X3_runTick : GoodIn wsX3_runTicks (wsV RX3 123 RX3 yX3_runTick wsX3_runTick) := goodIn_app (goodIn_of _ (by decide +kernel)) ggX3_runTicks_X3_runTick
theorem dX3_runTicks_0 : decode cX3_runTicks 0 = .ok (.iconst 0, 1) := by decide +kernel
theorem dX3_runTicks_1 : decode cX3_runTicks 1 = .ok (.istore_n 2, 1) := by decide +kernel
theorem dX3_runTicks_2 : decode cX3_runTicks 2 = .ok (.iconst 0, 1) := by decide +kernel
theorem dX3_runTicks_3 : decode cX3_runTicks 3 = .ok (.istore_n 3, 1) := by decide +kernel
theorem dX3_runTicks_4 : decode cX3_runTicks 4 = .ok (.iload_n 3, 1) := by decide +kernel
theorem dX3_runTicks_5 : decode cX3_runTicks 5 = .ok (.iload_n 1, 1) := by decide +kernel
theorem dX3_runTicks_6 : decode cX3_runTicks 6 = .ok (.if_icmp .ge 16, 3) := by decide +kernel
theorem dX3_runTicks_9 : decode cX3_runTicks 9 = .ok (.iload_n 2, 1) := by decide +kernel
theorem dX3_runTicks_10 : decode cX3_runTicks 10 = .ok (.aload_n 0, 1) := by decide +kernel
theorem dX3_runTicks_11 : decode cX3_runTicks 11 = .ok (.invokevirtual 123, 3) := by decide +kernel
theorem dX3_runTicks_14 : decode cX3_runTicks 14 = .ok (.iadd, 1) := by decide +kernel
theorem dX3_runTicks_15 : decode cX3_runTicks 15 = .ok (.istore_n 2, 1) := by decide +kernel
theorem dX3_runTicks_16 : decode cX3_runTicks 16 = .ok (.iinc 3 1, 3) := by decide +kernel
theorem dX3_runTicks_19 : decode cX3_runTicks 19 = .ok (.goto (-15), 3) := by decide +kernel
theorem dX3_runTicks_22 : decode cX3_runTicks 22 = .ok (.iload_n 2, 1) := by decide +kernel
theorem dX3_runTicks_23 : decode cX3_runTicks 23 = .ok (.ireturn, 1) := by decide +kernel
set_option maxRecDepth 20000 in
theorem ggX3_runTick_X3_slotNow : GoodIn wsX3_runTick wsX3_slotNow := goodIn_r _ [12, 1, 13, 4, 7, 89, 90, 91, 92, 93, 94, 95, 96, 97, 98, 99, 100, 101, 102, 103, 104, 105, 106, 107, 108, 109, 110] (by decide +kernel) (by decide +kernel)
set_option maxRecDepth 20000 in
theorem gX3_runTick_X3_slotNow : GoodIn wsX3_runTick (wsV RX3 116 RX3 yX3_slotNow wsX3_slotNow) := goodIn_app (goodIn_of _ (by decide +kernel)) ggX3_runTick_X3_slotNow
set_option maxRecDepth 20000 in
theorem ggX3_runTick_X3_litNext : GoodIn wsX3_runTick wsX3_litNext := goodIn_r _ [17, 18, 1, 19, 20, 8, 9, 10, 11, 12, 13, 4, 7, 21, 22, 23, 24, 25, 26, 27, 28, 29, 30, 31, 32, 33, 34, 35, 36, 37, 38, 39, 40, 41, 42, 43, 44, 89, 90, 91, 92, 93, 94, 95, 96, 97, 98, 99, 100, 101, 102, 103, 104, 105, 106, 107, 108, 109, 110] (by decide +kernel) (by decide +kernel)
set_option maxRecDepth 20000 in
theorem gX3_runTick_X3_litNext : GoodIn wsX3_runTick (wsV RX3 126 RX3 yX3_litNext wsX3_litNext) := goodIn_app (goodIn_of _ (by decide +kernel)) ggX3_runTick_X3_litNext
set_option maxRecDepth 20000 in
theorem ggX3_runTick_X3_isDriven : GoodIn wsX3_runTick wsX3_isDriven := goodIn_r _ [24, 1, 18, 25, 7, 26, 27, 28, 29, 30, 31, 32, 33, 34, 35, 36, 11, 37, 13, 38, 39, 40, 41, 42, 43, 44, 89, 90, 91, 92, 93, 94, 95, 96, 97, 98, 99, 100, 101, 102, 103, 104, 105, 106, 107, 108, 109, 110] (by decide +kernel) (by decide +kernel)
set_option maxRecDepth 20000 in
theorem gX3_runTick_X3_isDriven : GoodIn wsX3_runTick (wsV RX3 120 RX3 yX3_isDriven wsX3_isDriven) := goodIn_app (goodIn_of _ (by decide +kernel)) ggX3_runTick_X3_isDriven
set_option maxRecDepth 20000 in
theorem ggX3_runTick_X0_runTick : GoodIn wsX3_runTick wsX0_runTick := goodIn_r _ [48, 49, 50, 51, 52, 53, 54, 55, 56, 57, 58, 59, 60, 61, 62, 63, 102, 103, 104, 105, 106, 107, 108, 109, 110] (by decide +kernel) (by decide +kernel)
set_option maxRecDepth 20000 in
theorem gX3_runTick_X0_runTick : GoodIn wsX3_runTick (wsV RX3 130 RX0 yX0_runTick wsX0_runTick) := goodIn_app (goodIn_of _ (by decide +kernel)) ggX3_runTick_X0_runTick
set_option maxRecDepth 20000 in
theorem ggX3_runTick_J6_bitCount_0f7a4 : GoodIn wsX3_runTick wsJ6_bitCount_0f7a4 := goodIn_r _ [67, 68, 69, 70] (by decide +kernel) (by decide +kernel)
set_option maxRecDepth 20000 in
theorem gX3_runTick_J6_bitCount_0f7a4 : GoodIn wsX3_runTick (va_wsS RX3 101 yJ6_bitCount_0f7a4 wsJ6_bitCount_0f7a4) := goodIn_app (goodIn_of _ (by decide +kernel)) ggX3_runTick_J6_bitCount_0f7a4
set_option maxRecDepth 20000 in
theorem ggX3_runTick_X3_runCurrent : GoodIn wsX3_runTick wsX3_runCurrent := goodIn_r _ [74, 75, 76, 77, 78, 79, 80, 89, 90, 91, 92, 93, 94, 95, 96, 97, 98, 99, 100, 101] (by decide +kernel) (by decide +kernel)
set_option maxRecDepth 20000 in
theorem gX3_runTick_X3_runCurrent : GoodIn wsX3_runTick (wsV RX3 133 RX3 yX3_runCurrent wsX3_runCurrent) := goodIn_app (goodIn_of _ (by decide +kernel)) ggX3_runTick_X3_runCurrent
set_option maxRecDepth 20000 in
theorem ggX3_runTick_X3_frameLength : GoodIn wsX3_runTick wsX3_frameLength := goodIn_r _ [84, 4, 34, 35, 36, 11, 37, 1, 13, 89, 90, 91, 92, 93, 94, 95, 96, 97, 98, 99, 100, 101, 102, 103, 104, 105, 106, 107, 108, 109, 110] (by decide +kernel) (by decide +kernel)
set_option maxRecDepth 20000 in
theorem gX3_runTick_X3_frameLength : GoodIn wsX3_runTick (wsV RX3 137 RX3 yX3_frameLength wsX3_frameLength) := goodIn_app (goodIn_of _ (by decide +kernel)) ggX3_runTick_X3_frameLength
set_option maxRecDepth 20000 in
theorem ggX3_runTick_X3_beginFrame : GoodIn wsX3_runTick wsX3_beginFrame := goodIn_r _ [88, 44, 7, 18, 89, 90, 91, 92, 93, 94, 95, 96, 97, 98, 99, 100, 101] (by decide +kernel) (by decide +kernel)
set_option maxRecDepth 20000 in
theorem gX3_runTick_X3_beginFrame : GoodIn wsX3_runTick (wsV RX3 82 RX3 yX3_beginFrame wsX3_beginFrame) := goodIn_app (goodIn_of _ (by decide +kernel)) ggX3_runTick_X3_beginFrame
theorem dX3_runTick_0 : decode cX3_runTick 0 = .ok (.aload_n 0, 1) := by decide +kernel
theorem dX3_runTick_1 : decode cX3_runTick 1 = .ok (.invokevirtual 116, 3) := by decide +kernel
theorem dX3_runTick_4 : decode cX3_runTick 4 = .ok (.istore_n 1, 1) := by decide +kernel
theorem dX3_runTick_5 : decode cX3_runTick 5 = .ok (.aload_n 0, 1) := by decide +kernel
theorem dX3_runTick_6 : decode cX3_runTick 6 = .ok (.invokevirtual 126, 3) := by decide +kernel
theorem dX3_runTick_9 : decode cX3_runTick 9 = .ok (.istore_n 2, 1) := by decide +kernel
theorem dX3_runTick_10 : decode cX3_runTick 10 = .ok (.aload_n 0, 1) := by decide +kernel
theorem dX3_runTick_11 : decode cX3_runTick 11 = .ok (.iload_n 1, 1) := by decide +kernel
theorem dX3_runTick_12 : decode cX3_runTick 12 = .ok (.invokevirtual 120, 3) := by decide +kernel
theorem dX3_runTick_15 : decode cX3_runTick 15 = .ok (.ifCond .eq 28, 3) := by decide +kernel
theorem dX3_runTick_18 : decode cX3_runTick 18 = .ok (.aload_n 0, 1) := by decide +kernel
theorem dX3_runTick_19 : decode cX3_runTick 19 = .ok (.getfield 11, 3) := by decide +kernel
theorem dX3_runTick_22 : decode cX3_runTick 22 = .ok (.iload_n 1, 1) := by decide +kernel
theorem dX3_runTick_23 : decode cX3_runTick 23 = .ok (.aaload, 1) := by decide +kernel
theorem dX3_runTick_24 : decode cX3_runTick 24 = .ok (.dup, 1) := by decide +kernel
theorem dX3_runTick_25 : decode cX3_runTick 25 = .ok (.getfield 129, 3) := by decide +kernel
theorem dX3_runTick_28 : decode cX3_runTick 28 = .ok (.iconst 1, 1) := by decide +kernel
theorem dX3_runTick_29 : decode cX3_runTick 29 = .ok (.iadd, 1) := by decide +kernel
theorem dX3_runTick_30 : decode cX3_runTick 30 = .ok (.putfield 129, 3) := by decide +kernel
theorem dX3_runTick_33 : decode cX3_runTick 33 = .ok (.aload_n 0, 1) := by decide +kernel
theorem dX3_runTick_34 : decode cX3_runTick 34 = .ok (.dup, 1) := by decide +kernel
theorem dX3_runTick_35 : decode cX3_runTick 35 = .ok (.getfield 62, 3) := by decide +kernel
theorem dX3_runTick_38 : decode cX3_runTick 38 = .ok (.iconst 1, 1) := by decide +kernel
theorem dX3_runTick_39 : decode cX3_runTick 39 = .ok (.iadd, 1) := by decide +kernel
theorem dX3_runTick_40 : decode cX3_runTick 40 = .ok (.putfield 62, 3) := by decide +kernel
theorem dX3_runTick_43 : decode cX3_runTick 43 = .ok (.iconst 0, 1) := by decide +kernel
theorem dX3_runTick_44 : decode cX3_runTick 44 = .ok (.istore_n 3, 1) := by decide +kernel
theorem dX3_runTick_45 : decode cX3_runTick 45 = .ok (.iload_n 3, 1) := by decide +kernel
theorem dX3_runTick_46 : decode cX3_runTick 46 = .ok (.aload_n 0, 1) := by decide +kernel
theorem dX3_runTick_47 : decode cX3_runTick 47 = .ok (.getfield 17, 3) := by decide +kernel
theorem dX3_runTick_50 : decode cX3_runTick 50 = .ok (.if_icmp .ge 40, 3) := by decide +kernel
theorem dX3_runTick_53 : decode cX3_runTick 53 = .ok (.aload_n 0, 1) := by decide +kernel
theorem dX3_runTick_54 : decode cX3_runTick 54 = .ok (.getfield 11, 3) := by decide +kernel
theorem dX3_runTick_57 : decode cX3_runTick 57 = .ok (.iload_n 3, 1) := by decide +kernel
theorem dX3_runTick_58 : decode cX3_runTick 58 = .ok (.aaload, 1) := by decide +kernel
theorem dX3_runTick_59 : decode cX3_runTick 59 = .ok (.iload_n 3, 1) := by decide +kernel
theorem dX3_runTick_60 : decode cX3_runTick 60 = .ok (.iload_n 1, 1) := by decide +kernel
theorem dX3_runTick_61 : decode cX3_runTick 61 = .ok (.if_icmp .ne 7, 3) := by decide +kernel
theorem dX3_runTick_64 : decode cX3_runTick 64 = .ok (.iload_n 2, 1) := by decide +kernel
theorem dX3_runTick_65 : decode cX3_runTick 65 = .ok (.goto 4, 3) := by decide +kernel
theorem dX3_runTick_68 : decode cX3_runTick 68 = .ok (.iconst 0, 1) := by decide +kernel
theorem dX3_runTick_69 : decode cX3_runTick 69 = .ok (.aload_n 0, 1) := by decide +kernel
theorem dX3_runTick_70 : decode cX3_runTick 70 = .ok (.getfield 36, 3) := by decide +kernel
theorem dX3_runTick_73 : decode cX3_runTick 73 = .ok (.iconst 0, 1) := by decide +kernel
theorem dX3_runTick_74 : decode cX3_runTick 74 = .ok (.iaload, 1) := by decide +kernel
theorem dX3_runTick_75 : decode cX3_runTick 75 = .ok (.aload_n 0, 1) := by decide +kernel
theorem dX3_runTick_76 : decode cX3_runTick 76 = .ok (.getfield 36, 3) := by decide +kernel
theorem dX3_runTick_79 : decode cX3_runTick 79 = .ok (.iconst 2, 1) := by decide +kernel
theorem dX3_runTick_80 : decode cX3_runTick 80 = .ok (.iaload, 1) := by decide +kernel
theorem dX3_runTick_81 : decode cX3_runTick 81 = .ok (.invokevirtual 130, 3) := by decide +kernel
theorem dX3_runTick_84 : decode cX3_runTick 84 = .ok (.iinc 3 1, 3) := by decide +kernel
theorem dX3_runTick_87 : decode cX3_runTick 87 = .ok (.goto (-42), 3) := by decide +kernel
theorem dX3_runTick_90 : decode cX3_runTick 90 = .ok (.iload_n 2, 1) := by decide +kernel
theorem dX3_runTick_91 : decode cX3_runTick 91 = .ok (.invokestatic 101, 3) := by decide +kernel
theorem dX3_runTick_94 : decode cX3_runTick 94 = .ok (.istore_n 3, 1) := by decide +kernel
theorem dX3_runTick_95 : decode cX3_runTick 95 = .ok (.aload_n 0, 1) := by decide +kernel
theorem dX3_runTick_96 : decode cX3_runTick 96 = .ok (.iload_n 3, 1) := by decide +kernel
theorem dX3_runTick_97 : decode cX3_runTick 97 = .ok (.invokevirtual 133, 3) := by decide +kernel
theorem dX3_runTick_100 : decode cX3_runTick 100 = .ok (.aload_n 0, 1) := by decide +kernel
theorem dX3_runTick_101 : decode cX3_runTick 101 = .ok (.dup, 1) := by decide +kernel
theorem dX3_runTick_102 : decode cX3_runTick 102 = .ok (.getfield 50, 3) := by decide +kernel
theorem dX3_runTick_105 : decode cX3_runTick 105 = .ok (.iconst 1, 1) := by decide +kernel
theorem dX3_runTick_106 : decode cX3_runTick 106 = .ok (.iadd, 1) := by decide +kernel
theorem dX3_runTick_107 : decode cX3_runTick 107 = .ok (.putfield 50, 3) := by decide +kernel
theorem dX3_runTick_110 : decode cX3_runTick 110 = .ok (.aload_n 0, 1) := by decide +kernel
theorem dX3_runTick_111 : decode cX3_runTick 111 = .ok (.dup, 1) := by decide +kernel
theorem dX3_runTick_112 : decode cX3_runTick 112 = .ok (.getfield 56, 3) := by decide +kernel
theorem dX3_runTick_115 : decode cX3_runTick 115 = .ok (.iconst 1, 1) := by decide +kernel
theorem dX3_runTick_116 : decode cX3_runTick 116 = .ok (.iadd, 1) := by decide +kernel
theorem dX3_runTick_117 : decode cX3_runTick 117 = .ok (.putfield 56, 3) := by decide +kernel
theorem dX3_runTick_120 : decode cX3_runTick 120 = .ok (.aload_n 0, 1) := by decide +kernel
end
section
theorem dX3_runTick_121 : decode cX3_runTick 121 = .ok (.getfield 56, 3) := by decide +kernel
theorem dX3_runTick_124 : decode cX3_runTick 124 = .ok (.aload_n 0, 1) := by decide +kernel
theorem dX3_runTick_125 : decode cX3_runTick 125 = .ok (.invokevirtual 137, 3) := by decide +kernel
theorem dX3_runTick_128 : decode cX3_runTick 128 = .ok (.if_icmp .lt 7, 3) := by decide +kernel
theorem dX3_runTick_131 : decode cX3_runTick 131 = .ok (.aload_n 0, 1) := by decide +kernel
theorem dX3_runTick_132 : decode cX3_runTick 132 = .ok (.invokevirtual 82, 3) := by decide +kernel
theorem dX3_runTick_135 : decode cX3_runTick 135 = .ok (.iload_n 3, 1) := by decide +kernel
theorem dX3_runTick_136 : decode cX3_runTick 136 = .ok (.ireturn, 1) := by decide +kernel
theorem dX3_runCurrent_0 : decode cX3_runCurrent 0 = .ok (.aload_n 0, 1) := by decide +kernel
theorem dX3_runCurrent_1 : decode cX3_runCurrent 1 = .ok (.aload_n 0, 1) := by decide +kernel
theorem dX3_runCurrent_2 : decode cX3_runCurrent 2 = .ok (.getfield 65, 3) := by decide +kernel
theorem dX3_runCurrent_5 : decode cX3_runCurrent 5 = .ok (.iload_n 1, 1) := by decide +kernel
theorem dX3_runCurrent_6 : decode cX3_runCurrent 6 = .ok (.i2f, 1) := by decide +kernel
theorem dX3_runCurrent_7 : decode cX3_runCurrent 7 = .ok (.ldc 140, 2) := by decide +kernel
theorem dX3_runCurrent_9 : decode cX3_runCurrent 9 = .ok (.fmul, 1) := by decide +kernel
theorem dX3_runCurrent_10 : decode cX3_runCurrent 10 = .ok (.aload_n 0, 1) := by decide +kernel
theorem dX3_runCurrent_11 : decode cX3_runCurrent 11 = .ok (.getfield 65, 3) := by decide +kernel
theorem dX3_runCurrent_14 : decode cX3_runCurrent 14 = .ok (.fsub, 1) := by decide +kernel
theorem dX3_runCurrent_15 : decode cX3_runCurrent 15 = .ok (.ldc 141, 2) := by decide +kernel
theorem dX3_runCurrent_17 : decode cX3_runCurrent 17 = .ok (.fmul, 1) := by decide +kernel
theorem dX3_runCurrent_18 : decode cX3_runCurrent 18 = .ok (.fadd, 1) := by decide +kernel
theorem dX3_runCurrent_19 : decode cX3_runCurrent 19 = .ok (.putfield 65, 3) := by decide +kernel
theorem dX3_runCurrent_22 : decode cX3_runCurrent 22 = .ok (.aload_n 0, 1) := by decide +kernel
theorem dX3_runCurrent_23 : decode cX3_runCurrent 23 = .ok (.aload_n 0, 1) := by decide +kernel
theorem dX3_runCurrent_24 : decode cX3_runCurrent 24 = .ok (.getfield 65, 3) := by decide +kernel
theorem dX3_runCurrent_27 : decode cX3_runCurrent 27 = .ok (.aload_n 0, 1) := by decide +kernel
theorem dX3_runCurrent_28 : decode cX3_runCurrent 28 = .ok (.getfield 69, 3) := by decide +kernel
theorem dX3_runCurrent_31 : decode cX3_runCurrent 31 = .ok (.fcmp .l, 1) := by decide +kernel
theorem dX3_runCurrent_32 : decode cX3_runCurrent 32 = .ok (.ifCond .le 10, 3) := by decide +kernel
theorem dX3_runCurrent_35 : decode cX3_runCurrent 35 = .ok (.aload_n 0, 1) := by decide +kernel
theorem dX3_runCurrent_36 : decode cX3_runCurrent 36 = .ok (.getfield 65, 3) := by decide +kernel
theorem dX3_runCurrent_39 : decode cX3_runCurrent 39 = .ok (.goto 7, 3) := by decide +kernel
theorem dX3_runCurrent_42 : decode cX3_runCurrent 42 = .ok (.aload_n 0, 1) := by decide +kernel
theorem dX3_runCurrent_43 : decode cX3_runCurrent 43 = .ok (.getfield 69, 3) := by decide +kernel
theorem dX3_runCurrent_46 : decode cX3_runCurrent 46 = .ok (.putfield 69, 3) := by decide +kernel
theorem dX3_runCurrent_49 : decode cX3_runCurrent 49 = .ok (.aload_n 0, 1) := by decide +kernel
theorem dX3_runCurrent_50 : decode cX3_runCurrent 50 = .ok (.aload_n 0, 1) := by decide +kernel
theorem dX3_runCurrent_51 : decode cX3_runCurrent 51 = .ok (.getfield 72, 3) := by decide +kernel
theorem dX3_runCurrent_54 : decode cX3_runCurrent 54 = .ok (.aload_n 0, 1) := by decide +kernel
theorem dX3_runCurrent_55 : decode cX3_runCurrent 55 = .ok (.getfield 65, 3) := by decide +kernel
theorem dX3_runCurrent_58 : decode cX3_runCurrent 58 = .ok (.ldc 142, 2) := by decide +kernel
theorem dX3_runCurrent_60 : decode cX3_runCurrent 60 = .ok (.fmul, 1) := by decide +kernel
theorem dX3_runCurrent_61 : decode cX3_runCurrent 61 = .ok (.fadd, 1) := by decide +kernel
theorem dX3_runCurrent_62 : decode cX3_runCurrent 62 = .ok (.putfield 72, 3) := by decide +kernel
theorem dX3_runCurrent_65 : decode cX3_runCurrent 65 = .ok (.return_, 1) := by decide +kernel
theorem dX4_init_0 : decode cX4_init 0 = .ok (.aload_n 0, 1) := by decide +kernel
theorem dX4_init_1 : decode cX4_init 1 = .ok (.invokespecial 3, 3) := by decide +kernel
theorem dX4_init_4 : decode cX4_init 4 = .ok (.aload_n 0, 1) := by decide +kernel
theorem dX4_init_5 : decode cX4_init 5 = .ok (.bipush 30, 2) := by decide +kernel
theorem dX4_init_7 : decode cX4_init 7 = .ok (.newarray .char, 2) := by decide +kernel
theorem dX4_init_9 : decode cX4_init 9 = .ok (.putfield 9, 3) := by decide +kernel
theorem dX4_init_12 : decode cX4_init 12 = .ok (.aload_n 0, 1) := by decide +kernel
theorem dX4_init_13 : decode cX4_init 13 = .ok (.bipush 8, 2) := by decide +kernel
theorem dX4_init_15 : decode cX4_init 15 = .ok (.newarray .int, 2) := by decide +kernel
theorem dX4_init_17 : decode cX4_init 17 = .ok (.putfield 15, 3) := by decide +kernel
theorem dX4_init_20 : decode cX4_init 20 = .ok (.return_, 1) := by decide +kernel
theorem dX4_isFull_0 : decode cX4_isFull 0 = .ok (.aload_n 0, 1) := by decide +kernel
theorem dX4_isFull_1 : decode cX4_isFull 1 = .ok (.getfield 19, 3) := by decide +kernel
theorem dX4_isFull_4 : decode cX4_isFull 4 = .ok (.bipush 30, 2) := by decide +kernel
theorem dX4_isFull_6 : decode cX4_isFull 6 = .ok (.if_icmp .lt 7, 3) := by decide +kernel
theorem dX4_isFull_9 : decode cX4_isFull 9 = .ok (.iconst 1, 1) := by decide +kernel
theorem dX4_isFull_10 : decode cX4_isFull 10 = .ok (.goto 4, 3) := by decide +kernel
theorem dX4_isFull_13 : decode cX4_isFull 13 = .ok (.iconst 0, 1) := by decide +kernel
theorem dX4_isFull_14 : decode cX4_isFull 14 = .ok (.ireturn, 1) := by decide +kernel
theorem dX4_append_0 : decode cX4_append 0 = .ok (.aload_n 0, 1) := by decide +kernel
theorem dX4_append_1 : decode cX4_append 1 = .ok (.getfield 9, 3) := by decide +kernel
theorem dX4_append_4 : decode cX4_append 4 = .ok (.aload_n 0, 1) := by decide +kernel
theorem dX4_append_5 : decode cX4_append 5 = .ok (.getfield 19, 3) := by decide +kernel
theorem dX4_append_8 : decode cX4_append 8 = .ok (.iload_n 1, 1) := by decide +kernel
theorem dX4_append_9 : decode cX4_append 9 = .ok (.castore, 1) := by decide +kernel
theorem dX4_append_10 : decode cX4_append 10 = .ok (.aload_n 0, 1) := by decide +kernel
theorem dX4_append_11 : decode cX4_append 11 = .ok (.dup, 1) := by decide +kernel
theorem dX4_append_12 : decode cX4_append 12 = .ok (.getfield 19, 3) := by decide +kernel
theorem dX4_append_15 : decode cX4_append 15 = .ok (.iconst 1, 1) := by decide +kernel
theorem dX4_append_16 : decode cX4_append 16 = .ok (.iadd, 1) := by decide +kernel
theorem dX4_append_17 : decode cX4_append 17 = .ok (.putfield 19, 3) := by decide +kernel
theorem dX4_append_20 : decode cX4_append 20 = .ok (.return_, 1) := by decide +kernel
set_option maxRecDepth 20000 in
theorem ggX4_layOut_X5_patternOf : GoodIn wsX4_layOut wsX5_patternOf := goodIn_r _ [7, 8, 9] (by decide +kernel) (by decide +kernel)
set_option maxRecDepth 20000 in
theorem gX4_layOut_X5_patternOf_n26 : GoodIn wsX4_layOut (wsX5_patternOf) := ggX4_layOut_X5_patternOf
theorem dX4_layOut_0 : decode cX4_layOut 0 = .ok (.iconst 0, 1) := by decide +kernel
theorem dX4_layOut_1 : decode cX4_layOut 1 = .ok (.istore_n 2, 1) := by decide +kernel
theorem dX4_layOut_2 : decode cX4_layOut 2 = .ok (.iload_n 2, 1) := by decide +kernel
theorem dX4_layOut_3 : decode cX4_layOut 3 = .ok (.aload_n 0, 1) := by decide +kernel
theorem dX4_layOut_4 : decode cX4_layOut 4 = .ok (.getfield 15, 3) := by decide +kernel
theorem dX4_layOut_7 : decode cX4_layOut 7 = .ok (.arraylength, 1) := by decide +kernel
theorem dX4_layOut_8 : decode cX4_layOut 8 = .ok (.if_icmp .ge 16, 3) := by decide +kernel
theorem dX4_layOut_11 : decode cX4_layOut 11 = .ok (.aload_n 0, 1) := by decide +kernel
theorem dX4_layOut_12 : decode cX4_layOut 12 = .ok (.getfield 15, 3) := by decide +kernel
theorem dX4_layOut_15 : decode cX4_layOut 15 = .ok (.iload_n 2, 1) := by decide +kernel
theorem dX4_layOut_16 : decode cX4_layOut 16 = .ok (.iconst 0, 1) := by decide +kernel
theorem dX4_layOut_17 : decode cX4_layOut 17 = .ok (.iastore, 1) := by decide +kernel
theorem dX4_layOut_18 : decode cX4_layOut 18 = .ok (.iinc 2 1, 3) := by decide +kernel
theorem dX4_layOut_21 : decode cX4_layOut 21 = .ok (.goto (-19), 3) := by decide +kernel
theorem dX4_layOut_24 : decode cX4_layOut 24 = .ok (.aload_n 0, 1) := by decide +kernel
theorem dX4_layOut_25 : decode cX4_layOut 25 = .ok (.iconst 0, 1) := by decide +kernel
theorem dX4_layOut_26 : decode cX4_layOut 26 = .ok (.putfield 23, 3) := by decide +kernel
theorem dX4_layOut_29 : decode cX4_layOut 29 = .ok (.iconst 0, 1) := by decide +kernel
theorem dX4_layOut_30 : decode cX4_layOut 30 = .ok (.istore_n 2, 1) := by decide +kernel
theorem dX4_layOut_31 : decode cX4_layOut 31 = .ok (.iconst 0, 1) := by decide +kernel
theorem dX4_layOut_32 : decode cX4_layOut 32 = .ok (.istore_n 3, 1) := by decide +kernel
theorem dX4_layOut_33 : decode cX4_layOut 33 = .ok (.iload_n 3, 1) := by decide +kernel
theorem dX4_layOut_34 : decode cX4_layOut 34 = .ok (.aload_n 0, 1) := by decide +kernel
theorem dX4_layOut_35 : decode cX4_layOut 35 = .ok (.getfield 19, 3) := by decide +kernel
theorem dX4_layOut_38 : decode cX4_layOut 38 = .ok (.if_icmp .ge 127, 3) := by decide +kernel
theorem dX4_layOut_41 : decode cX4_layOut 41 = .ok (.aload_n 0, 1) := by decide +kernel
theorem dX4_layOut_42 : decode cX4_layOut 42 = .ok (.getfield 9, 3) := by decide +kernel
theorem dX4_layOut_45 : decode cX4_layOut 45 = .ok (.iload_n 3, 1) := by decide +kernel
theorem dX4_layOut_46 : decode cX4_layOut 46 = .ok (.caload, 1) := by decide +kernel
theorem dX4_layOut_47 : decode cX4_layOut 47 = .ok (.bipush 46, 2) := by decide +kernel
theorem dX4_layOut_49 : decode cX4_layOut 49 = .ok (.if_icmp .ne 7, 3) := by decide +kernel
theorem dX4_layOut_52 : decode cX4_layOut 52 = .ok (.iconst 1, 1) := by decide +kernel
theorem dX4_layOut_53 : decode cX4_layOut 53 = .ok (.goto 4, 3) := by decide +kernel
theorem dX4_layOut_56 : decode cX4_layOut 56 = .ok (.iconst 0, 1) := by decide +kernel
theorem dX4_layOut_57 : decode cX4_layOut 57 = .ok (.istore 4, 2) := by decide +kernel
theorem dX4_layOut_59 : decode cX4_layOut 59 = .ok (.iload 4, 2) := by decide +kernel
theorem dX4_layOut_61 : decode cX4_layOut 61 = .ok (.ifCond .eq 27, 3) := by decide +kernel
theorem dX4_layOut_64 : decode cX4_layOut 64 = .ok (.iload_n 2, 1) := by decide +kernel
theorem dX4_layOut_65 : decode cX4_layOut 65 = .ok (.ifCond .eq 23, 3) := by decide +kernel
theorem dX4_layOut_68 : decode cX4_layOut 68 = .ok (.aload_n 0, 1) := by decide +kernel
theorem dX4_layOut_69 : decode cX4_layOut 69 = .ok (.getfield 15, 3) := by decide +kernel
theorem dX4_layOut_72 : decode cX4_layOut 72 = .ok (.aload_n 0, 1) := by decide +kernel
theorem dX4_layOut_73 : decode cX4_layOut 73 = .ok (.getfield 23, 3) := by decide +kernel
theorem dX4_layOut_76 : decode cX4_layOut 76 = .ok (.iconst 1, 1) := by decide +kernel
theorem dX4_layOut_77 : decode cX4_layOut 77 = .ok (.isub, 1) := by decide +kernel
theorem dX4_layOut_78 : decode cX4_layOut 78 = .ok (.dup2, 1) := by decide +kernel
theorem dX4_layOut_79 : decode cX4_layOut 79 = .ok (.iaload, 1) := by decide +kernel
theorem dX4_layOut_80 : decode cX4_layOut 80 = .ok (.sipush 128, 3) := by decide +kernel
theorem dX4_layOut_83 : decode cX4_layOut 83 = .ok (.ior, 1) := by decide +kernel
theorem dX4_layOut_84 : decode cX4_layOut 84 = .ok (.iastore, 1) := by decide +kernel
theorem dX4_layOut_85 : decode cX4_layOut 85 = .ok (.goto 63, 3) := by decide +kernel
theorem dX4_layOut_88 : decode cX4_layOut 88 = .ok (.iload 4, 2) := by decide +kernel
theorem dX4_layOut_90 : decode cX4_layOut 90 = .ok (.ifCond .eq 9, 3) := by decide +kernel
theorem dX4_layOut_93 : decode cX4_layOut 93 = .ok (.sipush 128, 3) := by decide +kernel
theorem dX4_layOut_96 : decode cX4_layOut 96 = .ok (.goto 12, 3) := by decide +kernel
theorem dX4_layOut_99 : decode cX4_layOut 99 = .ok (.aload_n 0, 1) := by decide +kernel
theorem dX4_layOut_100 : decode cX4_layOut 100 = .ok (.getfield 9, 3) := by decide +kernel
theorem dX4_layOut_103 : decode cX4_layOut 103 = .ok (.iload_n 3, 1) := by decide +kernel
theorem dX4_layOut_104 : decode cX4_layOut 104 = .ok (.caload, 1) := by decide +kernel
theorem dX4_layOut_105 : decode cX4_layOut 105 = .ok (.invokestatic 26, 3) := by decide +kernel
theorem dX4_layOut_108 : decode cX4_layOut 108 = .ok (.istore 5, 2) := by decide +kernel
theorem dX4_layOut_110 : decode cX4_layOut 110 = .ok (.iload 5, 2) := by decide +kernel
theorem dX4_layOut_112 : decode cX4_layOut 112 = .ok (.bipush (-4), 2) := by decide +kernel
theorem dX4_layOut_114 : decode cX4_layOut 114 = .ok (.if_icmp .eq 11, 3) := by decide +kernel
theorem dX4_layOut_117 : decode cX4_layOut 117 = .ok (.aload_n 0, 1) := by decide +kernel
theorem dX4_layOut_118 : decode cX4_layOut 118 = .ok (.getfield 23, 3) := by decide +kernel
theorem dX4_layOut_121 : decode cX4_layOut 121 = .ok (.iload_n 1, 1) := by decide +kernel
theorem dX4_layOut_122 : decode cX4_layOut 122 = .ok (.if_icmp .lt 5, 3) := by decide +kernel
theorem dX4_layOut_125 : decode cX4_layOut 125 = .ok (.iload_n 3, 1) := by decide +kernel
theorem dX4_layOut_126 : decode cX4_layOut 126 = .ok (.ireturn, 1) := by decide +kernel
theorem dX4_layOut_127 : decode cX4_layOut 127 = .ok (.aload_n 0, 1) := by decide +kernel
theorem dX4_layOut_128 : decode cX4_layOut 128 = .ok (.getfield 15, 3) := by decide +kernel
theorem dX4_layOut_131 : decode cX4_layOut 131 = .ok (.aload_n 0, 1) := by decide +kernel
theorem dX4_layOut_132 : decode cX4_layOut 132 = .ok (.getfield 23, 3) := by decide +kernel
theorem dX4_layOut_135 : decode cX4_layOut 135 = .ok (.iload 5, 2) := by decide +kernel
theorem dX4_layOut_137 : decode cX4_layOut 137 = .ok (.iastore, 1) := by decide +kernel
theorem dX4_layOut_138 : decode cX4_layOut 138 = .ok (.aload_n 0, 1) := by decide +kernel
theorem dX4_layOut_139 : decode cX4_layOut 139 = .ok (.dup, 1) := by decide +kernel
theorem dX4_layOut_140 : decode cX4_layOut 140 = .ok (.getfield 23, 3) := by decide +kernel
theorem dX4_layOut_143 : decode cX4_layOut 143 = .ok (.iconst 1, 1) := by decide +kernel
theorem dX4_layOut_144 : decode cX4_layOut 144 = .ok (.iadd, 1) := by decide +kernel
theorem dX4_layOut_145 : decode cX4_layOut 145 = .ok (.putfield 23, 3) := by decide +kernel
theorem dX4_layOut_148 : decode cX4_layOut 148 = .ok (.iload 4, 2) := by decide +kernel
theorem dX4_layOut_150 : decode cX4_layOut 150 = .ok (.ifCond .ne 7, 3) := by decide +kernel
theorem dX4_layOut_153 : decode cX4_layOut 153 = .ok (.iconst 1, 1) := by decide +kernel
theorem dX4_layOut_154 : decode cX4_layOut 154 = .ok (.goto 4, 3) := by decide +kernel
theorem dX4_layOut_157 : decode cX4_layOut 157 = .ok (.iconst 0, 1) := by decide +kernel
theorem dX4_layOut_158 : decode cX4_layOut 158 = .ok (.istore_n 2, 1) := by decide +kernel
theorem dX4_layOut_159 : decode cX4_layOut 159 = .ok (.iinc 3 1, 3) := by decide +kernel
theorem dX4_layOut_162 : decode cX4_layOut 162 = .ok (.goto (-129), 3) := by decide +kernel
theorem dX4_layOut_165 : decode cX4_layOut 165 = .ok (.bipush (-4), 2) := by decide +kernel
theorem dX4_layOut_167 : decode cX4_layOut 167 = .ok (.ireturn, 1) := by decide +kernel
set_option maxRecDepth 20000 in
theorem ggX5_init_X3_init : GoodIn wsX5_init wsX3_init := goodIn_r _ [23, 24, 2, 3, 25, 26, 27, 28, 29, 30, 31, 32, 33, 34, 35, 36, 37, 38, 39, 40, 41, 42, 43, 44, 45, 46, 47, 48, 49, 50, 51, 52, 53, 54, 55, 56, 57, 58, 59, 60, 80, 81, 82, 83, 84, 85, 86, 87, 88, 89, 90, 91, 92, 107, 108, 109, 110, 111, 112, 113, 114, 115] (by decide +kernel) (by decide +kernel)
set_option maxRecDepth 20000 in
theorem gX5_init_X3_init : GoodIn wsX5_init (wsX3_init) := ggX5_init_X3_init
set_option maxRecDepth 20000 in
theorem ggX5_init_X1_init : GoodIn wsX5_init wsX1_init := goodIn_r _ [63, 64, 2, 3, 65, 66, 5, 6, 67, 22, 23, 24, 25, 26, 27, 28, 29, 30, 31, 32, 33, 34, 35, 36, 37, 38, 39, 40, 41, 42, 43, 44, 45, 46, 47, 48, 49, 50, 51, 52, 53, 54, 55, 56, 57, 58, 59, 60, 98, 99, 100, 80, 81, 82, 83, 84, 85, 86, 87, 88, 89, 90, 91, 92, 107, 108, 109, 110, 111, 112, 113, 114, 115] (by decide +kernel) (by decide +kernel)
set_option maxRecDepth 20000 in
theorem gX5_init_X1_init : GoodIn wsX5_init (wsX1_init) := ggX5_init_X1_init
set_option maxRecDepth 20000 in
theorem ggX5_init_X4_init : GoodIn wsX5_init wsX4_init := goodIn_r _ [69, 70, 2, 3, 71, 72, 28, 73, 101, 102, 103, 104] (by decide +kernel) (by decide +kernel)
set_option maxRecDepth 20000 in
theorem gX5_init_X4_init_n34 : GoodIn wsX5_init (wsX4_init) := ggX5_init_X4_init
set_option maxRecDepth 20000 in
theorem ggX5_init_X2_init : GoodIn wsX5_init wsX2_init := goodIn_r _ [75, 76, 2, 3, 77, 5, 6, 78, 79, 22, 23, 24, 25, 26, 27, 28, 29, 30, 31, 32, 33, 34, 35, 36, 37, 38, 39, 40, 41, 42, 43, 44, 45, 46, 47, 48, 49, 50, 51, 52, 53, 54, 55, 56, 57, 58, 59, 60, 80, 81, 82, 83, 84, 85, 86, 87, 88, 89, 90, 91, 92, 105, 106, 107, 108, 109, 110, 111, 112, 113, 114, 115] (by decide +kernel) (by decide +kernel)
set_option maxRecDepth 20000 in
theorem gX5_init_X2_init_n39 : GoodIn wsX5_init (wsX2_init) := ggX5_init_X2_init
theorem dX5_init_0 : decode cX5_init 0 = .ok (.aload_n 0, 1) := by decide +kernel
theorem dX5_init_1 : decode cX5_init 1 = .ok (.invokespecial 1, 3) := by decide +kernel
theorem dX5_init_4 : decode cX5_init 4 = .ok (.aload_n 0, 1) := by decide +kernel
theorem dX5_init_5 : decode cX5_init 5 = .ok (.new 7, 3) := by decide +kernel
theorem dX5_init_8 : decode cX5_init 8 = .ok (.dup, 1) := by decide +kernel
theorem dX5_init_9 : decode cX5_init 9 = .ok (.invokespecial 9, 3) := by decide +kernel
theorem dX5_init_12 : decode cX5_init 12 = .ok (.putfield 10, 3) := by decide +kernel
theorem dX5_init_15 : decode cX5_init 15 = .ok (.aload_n 0, 1) := by decide +kernel
theorem dX5_init_16 : decode cX5_init 16 = .ok (.new 7, 3) := by decide +kernel
theorem dX5_init_19 : decode cX5_init 19 = .ok (.dup, 1) := by decide +kernel
theorem dX5_init_20 : decode cX5_init 20 = .ok (.invokespecial 9, 3) := by decide +kernel
theorem dX5_init_23 : decode cX5_init 23 = .ok (.putfield 16, 3) := by decide +kernel
theorem dX5_init_26 : decode cX5_init 26 = .ok (.aload_n 0, 1) := by decide +kernel
theorem dX5_init_27 : decode cX5_init 27 = .ok (.new 19, 3) := by decide +kernel
theorem dX5_init_30 : decode cX5_init 30 = .ok (.dup, 1) := by decide +kernel
theorem dX5_init_31 : decode cX5_init 31 = .ok (.invokespecial 21, 3) := by decide +kernel
theorem dX5_init_34 : decode cX5_init 34 = .ok (.putfield 22, 3) := by decide +kernel
theorem dX5_init_37 : decode cX5_init 37 = .ok (.aload_n 0, 1) := by decide +kernel
theorem dX5_init_38 : decode cX5_init 38 = .ok (.iconst 2, 1) := by decide +kernel
theorem dX5_init_39 : decode cX5_init 39 = .ok (.anewarray 26, 3) := by decide +kernel
theorem dX5_init_42 : decode cX5_init 42 = .ok (.putfield 28, 3) := by decide +kernel
theorem dX5_init_45 : decode cX5_init 45 = .ok (.aload_n 0, 1) := by decide +kernel
theorem dX5_init_46 : decode cX5_init 46 = .ok (.new 32, 3) := by decide +kernel
theorem dX5_init_49 : decode cX5_init 49 = .ok (.dup, 1) := by decide +kernel
theorem dX5_init_50 : decode cX5_init 50 = .ok (.invokespecial 34, 3) := by decide +kernel
theorem dX5_init_53 : decode cX5_init 53 = .ok (.putfield 35, 3) := by decide +kernel
theorem dX5_init_56 : decode cX5_init 56 = .ok (.iconst 0, 1) := by decide +kernel
theorem dX5_init_57 : decode cX5_init 57 = .ok (.istore_n 1, 1) := by decide +kernel
theorem dX5_init_58 : decode cX5_init 58 = .ok (.iload_n 1, 1) := by decide +kernel
theorem dX5_init_59 : decode cX5_init 59 = .ok (.aload_n 0, 1) := by decide +kernel
theorem dX5_init_60 : decode cX5_init 60 = .ok (.getfield 28, 3) := by decide +kernel
theorem dX5_init_63 : decode cX5_init 63 = .ok (.arraylength, 1) := by decide +kernel
theorem dX5_init_64 : decode cX5_init 64 = .ok (.if_icmp .ge 22, 3) := by decide +kernel
theorem dX5_init_67 : decode cX5_init 67 = .ok (.aload_n 0, 1) := by decide +kernel
theorem dX5_init_68 : decode cX5_init 68 = .ok (.getfield 28, 3) := by decide +kernel
theorem dX5_init_71 : decode cX5_init 71 = .ok (.iload_n 1, 1) := by decide +kernel
theorem dX5_init_72 : decode cX5_init 72 = .ok (.new 26, 3) := by decide +kernel
theorem dX5_init_75 : decode cX5_init 75 = .ok (.dup, 1) := by decide +kernel
theorem dX5_init_76 : decode cX5_init 76 = .ok (.invokespecial 39, 3) := by decide +kernel
theorem dX5_init_79 : decode cX5_init 79 = .ok (.aastore, 1) := by decide +kernel
theorem dX5_init_80 : decode cX5_init 80 = .ok (.iinc 1 1, 3) := by decide +kernel
theorem dX5_init_83 : decode cX5_init 83 = .ok (.goto (-25), 3) := by decide +kernel
theorem dX5_init_86 : decode cX5_init 86 = .ok (.return_, 1) := by decide +kernel
set_option maxRecDepth 20000 in
theorem ggX5_setDigits_X5_isWithin : GoodIn wsX5_setDigits wsX5_isWithin := goodIn_r _ [7] (by decide +kernel) (by decide +kernel)
set_option maxRecDepth 20000 in
theorem gX5_setDigits_X5_isWithin : GoodIn wsX5_setDigits (va_wsS RX5 40 yX5_isWithin wsX5_isWithin) := goodIn_app (goodIn_of _ (by decide +kernel)) ggX5_setDigits_X5_isWithin
set_option maxRecDepth 20000 in
theorem ggX5_setDigits_X1_record : GoodIn wsX5_setDigits wsX1_record := goodIn_r _ [12, 13, 14, 15, 16, 17, 18, 19, 20, 21, 22, 23, 24, 25, 26, 27, 28, 29, 30, 31, 32, 33, 34, 35, 36, 37, 38, 39, 40, 41, 42, 43, 44, 45, 46, 47, 48, 49, 50, 51, 52, 53, 54, 55, 56, 91, 92, 93, 78, 79, 80, 81, 82, 83, 84, 85, 86, 87, 88, 89, 90, 94, 95, 96, 97, 98, 99, 100, 101, 102] (by decide +kernel) (by decide +kernel)
set_option maxRecDepth 20000 in
theorem gX5_setDigits_X1_record : GoodIn wsX5_setDigits (wsV RX5 44 RX1 yX1_record wsX1_record) := goodIn_app (goodIn_of _ (by decide +kernel)) ggX5_setDigits_X1_record
set_option maxRecDepth 20000 in
theorem ggX5_setDigits_X3_changeDigitCount : GoodIn wsX5_setDigits wsX3_changeDigitCount := goodIn_r _ [60, 26, 25, 61, 62, 63, 45, 64, 47, 48, 49, 50, 51, 52, 65, 66, 67, 68, 53, 54, 56, 69, 70, 71, 23, 72, 35, 36, 37, 78, 79, 80, 81, 82, 83, 84, 85, 86, 87, 88, 89, 90, 94, 95, 96, 97, 98, 99, 100, 101, 102] (by decide +kernel) (by decide +kernel)
set_option maxRecDepth 20000 in
theorem gX5_setDigits_X3_changeDigitCount : GoodIn wsX5_setDigits (wsV RX5 52 RX3 yX3_changeDigitCount wsX3_changeDigitCount) := goodIn_app (goodIn_of _ (by decide +kernel)) ggX5_setDigits_X3_changeDigitCount
theorem dX5_setDigits_0 : decode cX5_setDigits 0 = .ok (.iload_n 1, 1) := by decide +kernel
theorem dX5_setDigits_1 : decode cX5_setDigits 1 = .ok (.iconst 1, 1) := by decide +kernel
theorem dX5_setDigits_2 : decode cX5_setDigits 2 = .ok (.bipush 8, 2) := by decide +kernel
theorem dX5_setDigits_4 : decode cX5_setDigits 4 = .ok (.invokestatic 40, 3) := by decide +kernel
theorem dX5_setDigits_7 : decode cX5_setDigits 7 = .ok (.ifCond .ne 6, 3) := by decide +kernel
theorem dX5_setDigits_10 : decode cX5_setDigits 10 = .ok (.bipush (-2), 2) := by decide +kernel
theorem dX5_setDigits_12 : decode cX5_setDigits 12 = .ok (.ireturn, 1) := by decide +kernel
theorem dX5_setDigits_13 : decode cX5_setDigits 13 = .ok (.aload_n 0, 1) := by decide +kernel
theorem dX5_setDigits_14 : decode cX5_setDigits 14 = .ok (.getfield 22, 3) := by decide +kernel
theorem dX5_setDigits_17 : decode cX5_setDigits 17 = .ok (.aload_n 0, 1) := by decide +kernel
theorem dX5_setDigits_18 : decode cX5_setDigits 18 = .ok (.getfield 10, 3) := by decide +kernel
theorem dX5_setDigits_21 : decode cX5_setDigits 21 = .ok (.invokevirtual 44, 3) := by decide +kernel
theorem dX5_setDigits_24 : decode cX5_setDigits 24 = .ok (.aload_n 0, 1) := by decide +kernel
theorem dX5_setDigits_25 : decode cX5_setDigits 25 = .ok (.getfield 10, 3) := by decide +kernel
theorem dX5_setDigits_28 : decode cX5_setDigits 28 = .ok (.getfield 48, 3) := by decide +kernel
theorem dX5_setDigits_31 : decode cX5_setDigits 31 = .ok (.istore_n 2, 1) := by decide +kernel
theorem dX5_setDigits_32 : decode cX5_setDigits 32 = .ok (.aload_n 0, 1) := by decide +kernel
theorem dX5_setDigits_33 : decode cX5_setDigits 33 = .ok (.getfield 10, 3) := by decide +kernel
theorem dX5_setDigits_36 : decode cX5_setDigits 36 = .ok (.iload_n 1, 1) := by decide +kernel
theorem dX5_setDigits_37 : decode cX5_setDigits 37 = .ok (.invokevirtual 52, 3) := by decide +kernel
theorem dX5_setDigits_40 : decode cX5_setDigits 40 = .ok (.iload_n 2, 1) := by decide +kernel
theorem dX5_setDigits_41 : decode cX5_setDigits 41 = .ok (.ireturn, 1) := by decide +kernel
set_option maxRecDepth 20000 in
theorem ggX5_setWidth_X3_find : GoodIn wsX5_setWidth wsX3_find := goodIn_r _ [7, 8, 9, 10, 11, 12, 82, 83, 84, 85, 86, 87, 88, 89, 90, 91, 92, 93, 94] (by decide +kernel) (by decide +kernel)
set_option maxRecDepth 20000 in
theorem gX5_setWidth_X3_find : GoodIn wsX5_setWidth (wsV RX5 56 RX3 yX3_find wsX3_find) := goodIn_app (goodIn_of _ (by decide +kernel)) ggX5_setWidth_X3_find
set_option maxRecDepth 20000 in
theorem ggX5_setWidth_X5_isWithin : GoodIn wsX5_setWidth wsX5_isWithin := goodIn_r _ [12] (by decide +kernel) (by decide +kernel)
set_option maxRecDepth 20000 in
theorem gX5_setWidth_X5_isWithin : GoodIn wsX5_setWidth (va_wsS RX5 40 yX5_isWithin wsX5_isWithin) := goodIn_app (goodIn_of _ (by decide +kernel)) ggX5_setWidth_X5_isWithin
set_option maxRecDepth 20000 in
theorem ggX5_setWidth_X1_record : GoodIn wsX5_setWidth wsX1_record := goodIn_r _ [18, 19, 20, 21, 22, 23, 24, 25, 26, 27, 28, 6, 29, 9, 8, 30, 31, 32, 33, 34, 35, 36, 37, 38, 39, 40, 41, 42, 43, 44, 45, 46, 47, 48, 49, 50, 51, 52, 53, 54, 55, 56, 57, 58, 59, 95, 96, 97, 82, 83, 84, 85, 86, 87, 88, 89, 90, 91, 92, 93, 94, 98, 99, 100, 101, 102, 103, 104, 105, 106] (by decide +kernel) (by decide +kernel)
set_option maxRecDepth 20000 in
theorem gX5_setWidth_X1_record : GoodIn wsX5_setWidth (wsV RX5 44 RX1 yX1_record wsX1_record) := goodIn_app (goodIn_of _ (by decide +kernel)) ggX5_setWidth_X1_record
set_option maxRecDepth 20000 in
theorem ggX5_setWidth_X3_changeWidth : GoodIn wsX5_setWidth wsX3_changeWidth := goodIn_r _ [63, 64, 65, 66, 67, 6, 68, 38, 39, 40, 98, 99, 100, 101, 102, 103, 104, 105, 106, 82, 83, 84, 85, 86, 87, 88, 89, 90, 91, 92, 93, 94] (by decide +kernel) (by decide +kernel)
set_option maxRecDepth 20000 in
theorem gX5_setWidth_X3_changeWidth : GoodIn wsX5_setWidth (wsV RX5 60 RX3 yX3_changeWidth wsX3_changeWidth) := goodIn_app (goodIn_of _ (by decide +kernel)) ggX5_setWidth_X3_changeWidth
set_option maxRecDepth 20000 in
theorem ggX5_setWidth_X3_frameLength : GoodIn wsX5_setWidth wsX3_frameLength := goodIn_r _ [72, 8, 73, 74, 75, 6, 76, 9, 64, 82, 83, 84, 85, 86, 87, 88, 89, 90, 91, 92, 93, 94, 98, 99, 100, 101, 102, 103, 104, 105, 106] (by decide +kernel) (by decide +kernel)
set_option maxRecDepth 20000 in
theorem gX5_setWidth_X3_frameLength : GoodIn wsX5_setWidth (wsV RX5 64 RX3 yX3_frameLength wsX3_frameLength) := goodIn_app (goodIn_of _ (by decide +kernel)) ggX5_setWidth_X3_frameLength
theorem dX5_setWidth_0 : decode cX5_setWidth 0 = .ok (.aload_n 0, 1) := by decide +kernel
theorem dX5_setWidth_1 : decode cX5_setWidth 1 = .ok (.getfield 10, 3) := by decide +kernel
theorem dX5_setWidth_4 : decode cX5_setWidth 4 = .ok (.iload_n 1, 1) := by decide +kernel
theorem dX5_setWidth_5 : decode cX5_setWidth 5 = .ok (.invokevirtual 56, 3) := by decide +kernel
theorem dX5_setWidth_8 : decode cX5_setWidth 8 = .ok (.astore_n 3, 1) := by decide +kernel
theorem dX5_setWidth_9 : decode cX5_setWidth 9 = .ok (.aload_n 3, 1) := by decide +kernel
theorem dX5_setWidth_10 : decode cX5_setWidth 10 = .ok (.ifnonnull 5, 3) := by decide +kernel
theorem dX5_setWidth_13 : decode cX5_setWidth 13 = .ok (.iconst (-1), 1) := by decide +kernel
theorem dX5_setWidth_14 : decode cX5_setWidth 14 = .ok (.ireturn, 1) := by decide +kernel
theorem dX5_setWidth_15 : decode cX5_setWidth 15 = .ok (.iload_n 2, 1) := by decide +kernel
theorem dX5_setWidth_16 : decode cX5_setWidth 16 = .ok (.iconst 4, 1) := by decide +kernel
theorem dX5_setWidth_17 : decode cX5_setWidth 17 = .ok (.bipush 40, 2) := by decide +kernel
theorem dX5_setWidth_19 : decode cX5_setWidth 19 = .ok (.invokestatic 40, 3) := by decide +kernel
theorem dX5_setWidth_22 : decode cX5_setWidth 22 = .ok (.ifCond .ne 6, 3) := by decide +kernel
theorem dX5_setWidth_25 : decode cX5_setWidth 25 = .ok (.bipush (-2), 2) := by decide +kernel
theorem dX5_setWidth_27 : decode cX5_setWidth 27 = .ok (.ireturn, 1) := by decide +kernel
theorem dX5_setWidth_28 : decode cX5_setWidth 28 = .ok (.aload_n 0, 1) := by decide +kernel
theorem dX5_setWidth_29 : decode cX5_setWidth 29 = .ok (.getfield 22, 3) := by decide +kernel
theorem dX5_setWidth_32 : decode cX5_setWidth 32 = .ok (.aload_n 0, 1) := by decide +kernel
theorem dX5_setWidth_33 : decode cX5_setWidth 33 = .ok (.getfield 10, 3) := by decide +kernel
theorem dX5_setWidth_36 : decode cX5_setWidth 36 = .ok (.invokevirtual 44, 3) := by decide +kernel
theorem dX5_setWidth_39 : decode cX5_setWidth 39 = .ok (.aload_n 0, 1) := by decide +kernel
theorem dX5_setWidth_40 : decode cX5_setWidth 40 = .ok (.getfield 10, 3) := by decide +kernel
theorem dX5_setWidth_43 : decode cX5_setWidth 43 = .ok (.aload_n 3, 1) := by decide +kernel
theorem dX5_setWidth_44 : decode cX5_setWidth 44 = .ok (.iload_n 2, 1) := by decide +kernel
theorem dX5_setWidth_45 : decode cX5_setWidth 45 = .ok (.invokevirtual 60, 3) := by decide +kernel
theorem dX5_setWidth_48 : decode cX5_setWidth 48 = .ok (.aload_n 0, 1) := by decide +kernel
theorem dX5_setWidth_49 : decode cX5_setWidth 49 = .ok (.getfield 10, 3) := by decide +kernel
theorem dX5_setWidth_52 : decode cX5_setWidth 52 = .ok (.invokevirtual 64, 3) := by decide +kernel
theorem dX5_setWidth_55 : decode cX5_setWidth 55 = .ok (.ireturn, 1) := by decide +kernel
set_option maxRecDepth 20000 in
theorem ggX5_setGuard_X3_find : GoodIn wsX5_setGuard wsX3_find := goodIn_r _ [8, 9, 10, 11, 12, 13, 83, 84, 85, 86, 87, 88, 89, 90, 91, 92, 93, 94, 95] (by decide +kernel) (by decide +kernel)
set_option maxRecDepth 20000 in
theorem gX5_setGuard_X3_find : GoodIn wsX5_setGuard (wsV RX5 56 RX3 yX3_find wsX3_find) := goodIn_app (goodIn_of _ (by decide +kernel)) ggX5_setGuard_X3_find
set_option maxRecDepth 20000 in
theorem ggX5_setGuard_X5_isWithin : GoodIn wsX5_setGuard wsX5_isWithin := goodIn_r _ [13] (by decide +kernel) (by decide +kernel)
set_option maxRecDepth 20000 in
theorem gX5_setGuard_X5_isWithin : GoodIn wsX5_setGuard (va_wsS RX5 40 yX5_isWithin wsX5_isWithin) := goodIn_app (goodIn_of _ (by decide +kernel)) ggX5_setGuard_X5_isWithin
set_option maxRecDepth 20000 in
theorem ggX5_setGuard_X1_record : GoodIn wsX5_setGuard wsX1_record := goodIn_r _ [19, 20, 21, 22, 23, 24, 25, 26, 27, 28, 29, 7, 30, 10, 9, 31, 32, 33, 34, 35, 36, 37, 38, 39, 40, 41, 42, 43, 44, 45, 46, 47, 48, 49, 50, 51, 52, 53, 54, 55, 56, 57, 58, 59, 60, 96, 97, 98, 83, 84, 85, 86, 87, 88, 89, 90, 91, 92, 93, 94, 95, 74, 75, 76, 77, 78, 79, 80, 81, 82] (by decide +kernel) (by decide +kernel)
set_option maxRecDepth 20000 in
theorem gX5_setGuard_X1_record : GoodIn wsX5_setGuard (wsV RX5 44 RX1 yX1_record wsX1_record) := goodIn_app (goodIn_of _ (by decide +kernel)) ggX5_setGuard_X1_record
set_option maxRecDepth 20000 in
theorem ggX5_setGuard_X0_litPart : GoodIn wsX5_setGuard wsX0_litPart := goodIn_r _ [64, 53, 65, 66, 67, 49, 68, 51, 52, 74, 75, 76, 77, 78, 79, 80, 81, 82] (by decide +kernel) (by decide +kernel)
set_option maxRecDepth 20000 in
theorem gX5_setGuard_X0_litPart : GoodIn wsX5_setGuard (wsV RX5 73 RX0 yX0_litPart wsX0_litPart) := goodIn_app (goodIn_of _ (by decide +kernel)) ggX5_setGuard_X0_litPart
theorem dX5_setGuard_0 : decode cX5_setGuard 0 = .ok (.aload_n 0, 1) := by decide +kernel
theorem dX5_setGuard_1 : decode cX5_setGuard 1 = .ok (.getfield 10, 3) := by decide +kernel
theorem dX5_setGuard_4 : decode cX5_setGuard 4 = .ok (.iload_n 1, 1) := by decide +kernel
theorem dX5_setGuard_5 : decode cX5_setGuard 5 = .ok (.invokevirtual 56, 3) := by decide +kernel
theorem dX5_setGuard_8 : decode cX5_setGuard 8 = .ok (.astore_n 3, 1) := by decide +kernel
theorem dX5_setGuard_9 : decode cX5_setGuard 9 = .ok (.aload_n 3, 1) := by decide +kernel
theorem dX5_setGuard_10 : decode cX5_setGuard 10 = .ok (.ifnonnull 5, 3) := by decide +kernel
theorem dX5_setGuard_13 : decode cX5_setGuard 13 = .ok (.iconst (-1), 1) := by decide +kernel
theorem dX5_setGuard_14 : decode cX5_setGuard 14 = .ok (.ireturn, 1) := by decide +kernel
theorem dX5_setGuard_15 : decode cX5_setGuard 15 = .ok (.iload_n 2, 1) := by decide +kernel
theorem dX5_setGuard_16 : decode cX5_setGuard 16 = .ok (.iconst 0, 1) := by decide +kernel
theorem dX5_setGuard_17 : decode cX5_setGuard 17 = .ok (.iconst 3, 1) := by decide +kernel
theorem dX5_setGuard_18 : decode cX5_setGuard 18 = .ok (.invokestatic 40, 3) := by decide +kernel
theorem dX5_setGuard_21 : decode cX5_setGuard 21 = .ok (.ifCond .ne 6, 3) := by decide +kernel
theorem dX5_setGuard_24 : decode cX5_setGuard 24 = .ok (.bipush (-2), 2) := by decide +kernel
theorem dX5_setGuard_26 : decode cX5_setGuard 26 = .ok (.ireturn, 1) := by decide +kernel
theorem dX5_setGuard_27 : decode cX5_setGuard 27 = .ok (.aload_n 0, 1) := by decide +kernel
theorem dX5_setGuard_28 : decode cX5_setGuard 28 = .ok (.getfield 22, 3) := by decide +kernel
theorem dX5_setGuard_31 : decode cX5_setGuard 31 = .ok (.aload_n 0, 1) := by decide +kernel
theorem dX5_setGuard_32 : decode cX5_setGuard 32 = .ok (.getfield 10, 3) := by decide +kernel
theorem dX5_setGuard_35 : decode cX5_setGuard 35 = .ok (.invokevirtual 44, 3) := by decide +kernel
theorem dX5_setGuard_38 : decode cX5_setGuard 38 = .ok (.aload_n 3, 1) := by decide +kernel
theorem dX5_setGuard_39 : decode cX5_setGuard 39 = .ok (.iload_n 2, 1) := by decide +kernel
theorem dX5_setGuard_40 : decode cX5_setGuard 40 = .ok (.putfield 68, 3) := by decide +kernel
theorem dX5_setGuard_43 : decode cX5_setGuard 43 = .ok (.aload_n 3, 1) := by decide +kernel
theorem dX5_setGuard_44 : decode cX5_setGuard 44 = .ok (.invokevirtual 73, 3) := by decide +kernel
theorem dX5_setGuard_47 : decode cX5_setGuard 47 = .ok (.ireturn, 1) := by decide +kernel
set_option maxRecDepth 20000 in
theorem ggX5_setBrightness_X3_find : GoodIn wsX5_setBrightness wsX3_find := goodIn_r _ [8, 9, 10, 11, 12, 13, 83, 84, 85, 86, 87, 88, 89, 90, 91, 92, 93, 94, 95] (by decide +kernel) (by decide +kernel)
set_option maxRecDepth 20000 in
theorem gX5_setBrightness_X3_find : GoodIn wsX5_setBrightness (wsV RX5 56 RX3 yX3_find wsX3_find) := goodIn_app (goodIn_of _ (by decide +kernel)) ggX5_setBrightness_X3_find
set_option maxRecDepth 20000 in
theorem ggX5_setBrightness_X5_isWithin : GoodIn wsX5_setBrightness wsX5_isWithin := goodIn_r _ [13] (by decide +kernel) (by decide +kernel)
set_option maxRecDepth 20000 in
theorem gX5_setBrightness_X5_isWithin : GoodIn wsX5_setBrightness (va_wsS RX5 40 yX5_isWithin wsX5_isWithin) := goodIn_app (goodIn_of _ (by decide +kernel)) ggX5_setBrightness_X5_isWithin
set_option maxRecDepth 20000 in
theorem ggX5_setBrightness_X1_record : GoodIn wsX5_setBrightness wsX1_record := goodIn_r _ [19, 20, 21, 22, 23, 24, 25, 26, 27, 28, 29, 7, 30, 10, 9, 31, 32, 33, 34, 35, 36, 37, 38, 39, 40, 41, 42, 43, 44, 45, 46, 47, 48, 49, 50, 51, 52, 53, 54, 55, 56, 57, 58, 59, 60, 96, 97, 98, 83, 84, 85, 86, 87, 88, 89, 90, 91, 92, 93, 94, 95, 74, 75, 76, 77, 78, 79, 80, 81, 82] (by decide +kernel) (by decide +kernel)
set_option maxRecDepth 20000 in
theorem gX5_setBrightness_X1_record : GoodIn wsX5_setBrightness (wsV RX5 44 RX1 yX1_record wsX1_record) := goodIn_app (goodIn_of _ (by decide +kernel)) ggX5_setBrightness_X1_record
set_option maxRecDepth 20000 in
theorem ggX5_setBrightness_X0_litPart : GoodIn wsX5_setBrightness wsX0_litPart := goodIn_r _ [64, 53, 65, 66, 67, 49, 68, 51, 52, 74, 75, 76, 77, 78, 79, 80, 81, 82] (by decide +kernel) (by decide +kernel)
set_option maxRecDepth 20000 in
theorem gX5_setBrightness_X0_litPart : GoodIn wsX5_setBrightness (wsV RX5 73 RX0 yX0_litPart wsX0_litPart) := goodIn_app (goodIn_of _ (by decide +kernel)) ggX5_setBrightness_X0_litPart
theorem dX5_setBrightness_0 : decode cX5_setBrightness 0 = .ok (.aload_n 0, 1) := by decide +kernel
theorem dX5_setBrightness_1 : decode cX5_setBrightness 1 = .ok (.getfield 10, 3) := by decide +kernel
theorem dX5_setBrightness_4 : decode cX5_setBrightness 4 = .ok (.iload_n 1, 1) := by decide +kernel
theorem dX5_setBrightness_5 : decode cX5_setBrightness 5 = .ok (.invokevirtual 56, 3) := by decide +kernel
theorem dX5_setBrightness_8 : decode cX5_setBrightness 8 = .ok (.astore_n 3, 1) := by decide +kernel
theorem dX5_setBrightness_9 : decode cX5_setBrightness 9 = .ok (.aload_n 3, 1) := by decide +kernel
theorem dX5_setBrightness_10 : decode cX5_setBrightness 10 = .ok (.ifnonnull 5, 3) := by decide +kernel
theorem dX5_setBrightness_13 : decode cX5_setBrightness 13 = .ok (.iconst (-1), 1) := by decide +kernel
theorem dX5_setBrightness_14 : decode cX5_setBrightness 14 = .ok (.ireturn, 1) := by decide +kernel
theorem dX5_setBrightness_15 : decode cX5_setBrightness 15 = .ok (.iload_n 2, 1) := by decide +kernel
theorem dX5_setBrightness_16 : decode cX5_setBrightness 16 = .ok (.iconst 0, 1) := by decide +kernel
theorem dX5_setBrightness_17 : decode cX5_setBrightness 17 = .ok (.bipush 15, 2) := by decide +kernel
theorem dX5_setBrightness_19 : decode cX5_setBrightness 19 = .ok (.invokestatic 40, 3) := by decide +kernel
theorem dX5_setBrightness_22 : decode cX5_setBrightness 22 = .ok (.ifCond .ne 6, 3) := by decide +kernel
theorem dX5_setBrightness_25 : decode cX5_setBrightness 25 = .ok (.bipush (-2), 2) := by decide +kernel
theorem dX5_setBrightness_27 : decode cX5_setBrightness 27 = .ok (.ireturn, 1) := by decide +kernel
theorem dX5_setBrightness_28 : decode cX5_setBrightness 28 = .ok (.aload_n 0, 1) := by decide +kernel
theorem dX5_setBrightness_29 : decode cX5_setBrightness 29 = .ok (.getfield 22, 3) := by decide +kernel
theorem dX5_setBrightness_32 : decode cX5_setBrightness 32 = .ok (.aload_n 0, 1) := by decide +kernel
theorem dX5_setBrightness_33 : decode cX5_setBrightness 33 = .ok (.getfield 10, 3) := by decide +kernel
theorem dX5_setBrightness_36 : decode cX5_setBrightness 36 = .ok (.invokevirtual 44, 3) := by decide +kernel
theorem dX5_setBrightness_39 : decode cX5_setBrightness 39 = .ok (.aload_n 3, 1) := by decide +kernel
theorem dX5_setBrightness_40 : decode cX5_setBrightness 40 = .ok (.iload_n 2, 1) := by decide +kernel
theorem dX5_setBrightness_41 : decode cX5_setBrightness 41 = .ok (.putfield 76, 3) := by decide +kernel
theorem dX5_setBrightness_44 : decode cX5_setBrightness 44 = .ok (.aload_n 3, 1) := by decide +kernel
theorem dX5_setBrightness_45 : decode cX5_setBrightness 45 = .ok (.invokevirtual 73, 3) := by decide +kernel
theorem dX5_setBrightness_48 : decode cX5_setBrightness 48 = .ok (.ireturn, 1) := by decide +kernel
set_option maxRecDepth 20000 in
theorem ggX5_setPattern_X3_find : GoodIn wsX5_setPattern wsX3_find := goodIn_r _ [8, 9, 10, 11, 12, 13, 75, 76, 77, 78, 79, 80, 81, 82, 83, 84, 85, 86, 87] (by decide +kernel) (by decide +kernel)
set_option maxRecDepth 20000 in
theorem gX5_setPattern_X3_find : GoodIn wsX5_setPattern (wsV RX5 56 RX3 yX3_find wsX3_find) := goodIn_app (goodIn_of _ (by decide +kernel)) ggX5_setPattern_X3_find
set_option maxRecDepth 20000 in
theorem ggX5_setPattern_X5_isWithin : GoodIn wsX5_setPattern wsX5_isWithin := goodIn_r _ [13] (by decide +kernel) (by decide +kernel)
set_option maxRecDepth 20000 in
theorem gX5_setPattern_X5_isWithin : GoodIn wsX5_setPattern (va_wsS RX5 40 yX5_isWithin wsX5_isWithin) := goodIn_app (goodIn_of _ (by decide +kernel)) ggX5_setPattern_X5_isWithin
set_option maxRecDepth 20000 in
theorem ggX5_setPattern_X1_record : GoodIn wsX5_setPattern wsX1_record := goodIn_r _ [19, 20, 21, 22, 23, 24, 25, 26, 27, 28, 29, 7, 30, 10, 9, 31, 32, 33, 34, 35, 36, 37, 38, 39, 40, 41, 42, 43, 44, 45, 46, 47, 48, 49, 50, 51, 52, 53, 54, 55, 56, 57, 58, 59, 60, 88, 89, 90, 75, 76, 77, 78, 79, 80, 81, 82, 83, 84, 85, 86, 87, 66, 67, 68, 69, 70, 71, 72, 73, 74] (by decide +kernel) (by decide +kernel)
set_option maxRecDepth 20000 in
theorem gX5_setPattern_X1_record : GoodIn wsX5_setPattern (wsV RX5 44 RX1 yX1_record wsX1_record) := goodIn_app (goodIn_of _ (by decide +kernel)) ggX5_setPattern_X1_record
theorem dX5_setPattern_0 : decode cX5_setPattern 0 = .ok (.aload_n 0, 1) := by decide +kernel
theorem dX5_setPattern_1 : decode cX5_setPattern 1 = .ok (.getfield 10, 3) := by decide +kernel
theorem dX5_setPattern_4 : decode cX5_setPattern 4 = .ok (.iload_n 1, 1) := by decide +kernel
theorem dX5_setPattern_5 : decode cX5_setPattern 5 = .ok (.invokevirtual 56, 3) := by decide +kernel
theorem dX5_setPattern_8 : decode cX5_setPattern 8 = .ok (.astore_n 3, 1) := by decide +kernel
theorem dX5_setPattern_9 : decode cX5_setPattern 9 = .ok (.aload_n 3, 1) := by decide +kernel
theorem dX5_setPattern_10 : decode cX5_setPattern 10 = .ok (.ifnonnull 5, 3) := by decide +kernel
theorem dX5_setPattern_13 : decode cX5_setPattern 13 = .ok (.iconst (-1), 1) := by decide +kernel
theorem dX5_setPattern_14 : decode cX5_setPattern 14 = .ok (.ireturn, 1) := by decide +kernel
theorem dX5_setPattern_15 : decode cX5_setPattern 15 = .ok (.iload_n 2, 1) := by decide +kernel
theorem dX5_setPattern_16 : decode cX5_setPattern 16 = .ok (.iconst 0, 1) := by decide +kernel
theorem dX5_setPattern_17 : decode cX5_setPattern 17 = .ok (.sipush 255, 3) := by decide +kernel
theorem dX5_setPattern_20 : decode cX5_setPattern 20 = .ok (.invokestatic 40, 3) := by decide +kernel
theorem dX5_setPattern_23 : decode cX5_setPattern 23 = .ok (.ifCond .ne 6, 3) := by decide +kernel
theorem dX5_setPattern_26 : decode cX5_setPattern 26 = .ok (.bipush (-2), 2) := by decide +kernel
theorem dX5_setPattern_28 : decode cX5_setPattern 28 = .ok (.ireturn, 1) := by decide +kernel
theorem dX5_setPattern_29 : decode cX5_setPattern 29 = .ok (.aload_n 0, 1) := by decide +kernel
theorem dX5_setPattern_30 : decode cX5_setPattern 30 = .ok (.getfield 22, 3) := by decide +kernel
theorem dX5_setPattern_33 : decode cX5_setPattern 33 = .ok (.aload_n 0, 1) := by decide +kernel
theorem dX5_setPattern_34 : decode cX5_setPattern 34 = .ok (.getfield 10, 3) := by decide +kernel
theorem dX5_setPattern_37 : decode cX5_setPattern 37 = .ok (.invokevirtual 44, 3) := by decide +kernel
theorem dX5_setPattern_40 : decode cX5_setPattern 40 = .ok (.aload_n 3, 1) := by decide +kernel
theorem dX5_setPattern_41 : decode cX5_setPattern 41 = .ok (.getfield 79, 3) := by decide +kernel
theorem dX5_setPattern_44 : decode cX5_setPattern 44 = .ok (.istore 4, 2) := by decide +kernel
theorem dX5_setPattern_46 : decode cX5_setPattern 46 = .ok (.aload_n 3, 1) := by decide +kernel
theorem dX5_setPattern_47 : decode cX5_setPattern 47 = .ok (.iload_n 2, 1) := by decide +kernel
theorem dX5_setPattern_48 : decode cX5_setPattern 48 = .ok (.putfield 79, 3) := by decide +kernel
theorem dX5_setPattern_51 : decode cX5_setPattern 51 = .ok (.iload 4, 2) := by decide +kernel
theorem dX5_setPattern_53 : decode cX5_setPattern 53 = .ok (.ireturn, 1) := by decide +kernel
set_option maxRecDepth 20000 in
theorem ggX5_setGroup_X3_find : GoodIn wsX5_setGroup wsX3_find := goodIn_r _ [8, 9, 10, 11, 12, 13, 75, 76, 77, 78, 79, 80, 81, 82, 83, 84, 85, 86, 87] (by decide +kernel) (by decide +kernel)
set_option maxRecDepth 20000 in
theorem gX5_setGroup_X3_find : GoodIn wsX5_setGroup (wsV RX5 56 RX3 yX3_find wsX3_find) := goodIn_app (goodIn_of _ (by decide +kernel)) ggX5_setGroup_X3_find
set_option maxRecDepth 20000 in
theorem ggX5_setGroup_X5_isWithin : GoodIn wsX5_setGroup wsX5_isWithin := goodIn_r _ [13] (by decide +kernel) (by decide +kernel)
set_option maxRecDepth 20000 in
theorem gX5_setGroup_X5_isWithin : GoodIn wsX5_setGroup (va_wsS RX5 40 yX5_isWithin wsX5_isWithin) := goodIn_app (goodIn_of _ (by decide +kernel)) ggX5_setGroup_X5_isWithin
set_option maxRecDepth 20000 in
theorem ggX5_setGroup_X1_record : GoodIn wsX5_setGroup wsX1_record := goodIn_r _ [19, 20, 21, 22, 23, 24, 25, 26, 27, 28, 29, 7, 30, 10, 9, 31, 32, 33, 34, 35, 36, 37, 38, 39, 40, 41, 42, 43, 44, 45, 46, 47, 48, 49, 50, 51, 52, 53, 54, 55, 56, 57, 58, 59, 60, 88, 89, 90, 75, 76, 77, 78, 79, 80, 81, 82, 83, 84, 85, 86, 87, 66, 67, 68, 69, 70, 71, 72, 73, 74] (by decide +kernel) (by decide +kernel)
set_option maxRecDepth 20000 in
theorem gX5_setGroup_X1_record : GoodIn wsX5_setGroup (wsV RX5 44 RX1 yX1_record wsX1_record) := goodIn_app (goodIn_of _ (by decide +kernel)) ggX5_setGroup_X1_record
theorem dX5_setGroup_0 : decode cX5_setGroup 0 = .ok (.aload_n 0, 1) := by decide +kernel
theorem dX5_setGroup_1 : decode cX5_setGroup 1 = .ok (.getfield 10, 3) := by decide +kernel
theorem dX5_setGroup_4 : decode cX5_setGroup 4 = .ok (.iload_n 1, 1) := by decide +kernel
theorem dX5_setGroup_5 : decode cX5_setGroup 5 = .ok (.invokevirtual 56, 3) := by decide +kernel
theorem dX5_setGroup_8 : decode cX5_setGroup 8 = .ok (.astore_n 3, 1) := by decide +kernel
theorem dX5_setGroup_9 : decode cX5_setGroup 9 = .ok (.aload_n 3, 1) := by decide +kernel
theorem dX5_setGroup_10 : decode cX5_setGroup 10 = .ok (.ifnull 12, 3) := by decide +kernel
theorem dX5_setGroup_13 : decode cX5_setGroup 13 = .ok (.iload_n 2, 1) := by decide +kernel
theorem dX5_setGroup_14 : decode cX5_setGroup 14 = .ok (.iconst 0, 1) := by decide +kernel
theorem dX5_setGroup_15 : decode cX5_setGroup 15 = .ok (.iconst 3, 1) := by decide +kernel
theorem dX5_setGroup_16 : decode cX5_setGroup 16 = .ok (.invokestatic 40, 3) := by decide +kernel
theorem dX5_setGroup_19 : decode cX5_setGroup 19 = .ok (.ifCond .ne 5, 3) := by decide +kernel
theorem dX5_setGroup_22 : decode cX5_setGroup 22 = .ok (.iconst (-1), 1) := by decide +kernel
theorem dX5_setGroup_23 : decode cX5_setGroup 23 = .ok (.ireturn, 1) := by decide +kernel
theorem dX5_setGroup_24 : decode cX5_setGroup 24 = .ok (.aload_n 0, 1) := by decide +kernel
theorem dX5_setGroup_25 : decode cX5_setGroup 25 = .ok (.getfield 22, 3) := by decide +kernel
theorem dX5_setGroup_28 : decode cX5_setGroup 28 = .ok (.aload_n 0, 1) := by decide +kernel
theorem dX5_setGroup_29 : decode cX5_setGroup 29 = .ok (.getfield 10, 3) := by decide +kernel
theorem dX5_setGroup_32 : decode cX5_setGroup 32 = .ok (.invokevirtual 44, 3) := by decide +kernel
theorem dX5_setGroup_35 : decode cX5_setGroup 35 = .ok (.aload_n 3, 1) := by decide +kernel
theorem dX5_setGroup_36 : decode cX5_setGroup 36 = .ok (.getfield 82, 3) := by decide +kernel
theorem dX5_setGroup_39 : decode cX5_setGroup 39 = .ok (.istore 4, 2) := by decide +kernel
theorem dX5_setGroup_41 : decode cX5_setGroup 41 = .ok (.aload_n 3, 1) := by decide +kernel
theorem dX5_setGroup_42 : decode cX5_setGroup 42 = .ok (.iload_n 2, 1) := by decide +kernel
theorem dX5_setGroup_43 : decode cX5_setGroup 43 = .ok (.putfield 82, 3) := by decide +kernel
theorem dX5_setGroup_46 : decode cX5_setGroup 46 = .ok (.iload 4, 2) := by decide +kernel
theorem dX5_setGroup_48 : decode cX5_setGroup 48 = .ok (.ireturn, 1) := by decide +kernel
set_option maxRecDepth 20000 in
theorem ggX5_setBlink_X5_isWithin : GoodIn wsX5_setBlink wsX5_isWithin := goodIn_r _ [8] (by decide +kernel) (by decide +kernel)
set_option maxRecDepth 20000 in
theorem gX5_setBlink_X5_isWithin : GoodIn wsX5_setBlink (va_wsS RX5 40 yX5_isWithin wsX5_isWithin) := goodIn_app (goodIn_of _ (by decide +kernel)) ggX5_setBlink_X5_isWithin
set_option maxRecDepth 20000 in
theorem ggX5_setBlink_X1_record : GoodIn wsX5_setBlink wsX1_record := goodIn_r _ [13, 14, 15, 16, 17, 18, 19, 20, 21, 22, 23, 24, 25, 26, 27, 28, 29, 30, 31, 32, 33, 34, 35, 36, 37, 38, 39, 40, 41, 42, 43, 44, 45, 46, 47, 48, 49, 50, 51, 52, 53, 54, 55, 56, 57, 81, 82, 83, 68, 69, 70, 71, 72, 73, 74, 75, 76, 77, 78, 79, 80, 84, 85, 86, 87, 88, 89, 90, 91, 92] (by decide +kernel) (by decide +kernel)
set_option maxRecDepth 20000 in
theorem gX5_setBlink_X1_record : GoodIn wsX5_setBlink (wsV RX5 44 RX1 yX1_record wsX1_record) := goodIn_app (goodIn_of _ (by decide +kernel)) ggX5_setBlink_X1_record
set_option maxRecDepth 20000 in
theorem ggX5_setBlink_X3_digitsInGroup : GoodIn wsX5_setBlink wsX3_digitsInGroup := goodIn_r _ [61, 27, 26, 62, 68, 69, 70, 71, 72, 73, 74, 75, 76, 77, 78, 79, 80, 84, 85, 86, 87, 88, 89, 90, 91, 92] (by decide +kernel) (by decide +kernel)
set_option maxRecDepth 20000 in
theorem gX5_setBlink_X3_digitsInGroup : GoodIn wsX5_setBlink (wsV RX5 92 RX3 yX3_digitsInGroup wsX3_digitsInGroup) := goodIn_app (goodIn_of _ (by decide +kernel)) ggX5_setBlink_X3_digitsInGroup
theorem dX5_setBlink_0 : decode cX5_setBlink 0 = .ok (.iload_n 1, 1) := by decide +kernel
theorem dX5_setBlink_1 : decode cX5_setBlink 1 = .ok (.iconst 1, 1) := by decide +kernel
theorem dX5_setBlink_2 : decode cX5_setBlink 2 = .ok (.iconst 3, 1) := by decide +kernel
theorem dX5_setBlink_3 : decode cX5_setBlink 3 = .ok (.invokestatic 40, 3) := by decide +kernel
theorem dX5_setBlink_6 : decode cX5_setBlink 6 = .ok (.ifCond .ne 5, 3) := by decide +kernel
theorem dX5_setBlink_9 : decode cX5_setBlink 9 = .ok (.iconst (-1), 1) := by decide +kernel
theorem dX5_setBlink_10 : decode cX5_setBlink 10 = .ok (.ireturn, 1) := by decide +kernel
theorem dX5_setBlink_11 : decode cX5_setBlink 11 = .ok (.iload_n 2, 1) := by decide +kernel
theorem dX5_setBlink_12 : decode cX5_setBlink 12 = .ok (.iconst 1, 1) := by decide +kernel
theorem dX5_setBlink_13 : decode cX5_setBlink 13 = .ok (.bipush 50, 2) := by decide +kernel
theorem dX5_setBlink_15 : decode cX5_setBlink 15 = .ok (.invokestatic 40, 3) := by decide +kernel
theorem dX5_setBlink_18 : decode cX5_setBlink 18 = .ok (.ifCond .eq 13, 3) := by decide +kernel
theorem dX5_setBlink_21 : decode cX5_setBlink 21 = .ok (.iload_n 3, 1) := by decide +kernel
theorem dX5_setBlink_22 : decode cX5_setBlink 22 = .ok (.iconst 0, 1) := by decide +kernel
theorem dX5_setBlink_23 : decode cX5_setBlink 23 = .ok (.bipush 50, 2) := by decide +kernel
theorem dX5_setBlink_25 : decode cX5_setBlink 25 = .ok (.invokestatic 40, 3) := by decide +kernel
theorem dX5_setBlink_28 : decode cX5_setBlink 28 = .ok (.ifCond .ne 6, 3) := by decide +kernel
theorem dX5_setBlink_31 : decode cX5_setBlink 31 = .ok (.bipush (-2), 2) := by decide +kernel
theorem dX5_setBlink_33 : decode cX5_setBlink 33 = .ok (.ireturn, 1) := by decide +kernel
theorem dX5_setBlink_34 : decode cX5_setBlink 34 = .ok (.aload_n 0, 1) := by decide +kernel
theorem dX5_setBlink_35 : decode cX5_setBlink 35 = .ok (.getfield 22, 3) := by decide +kernel
theorem dX5_setBlink_38 : decode cX5_setBlink 38 = .ok (.aload_n 0, 1) := by decide +kernel
theorem dX5_setBlink_39 : decode cX5_setBlink 39 = .ok (.getfield 10, 3) := by decide +kernel
theorem dX5_setBlink_42 : decode cX5_setBlink 42 = .ok (.invokevirtual 44, 3) := by decide +kernel
theorem dX5_setBlink_45 : decode cX5_setBlink 45 = .ok (.aload_n 0, 1) := by decide +kernel
theorem dX5_setBlink_46 : decode cX5_setBlink 46 = .ok (.getfield 10, 3) := by decide +kernel
theorem dX5_setBlink_49 : decode cX5_setBlink 49 = .ok (.getfield 85, 3) := by decide +kernel
theorem dX5_setBlink_52 : decode cX5_setBlink 52 = .ok (.iload_n 1, 1) := by decide +kernel
theorem dX5_setBlink_53 : decode cX5_setBlink 53 = .ok (.iload_n 2, 1) := by decide +kernel
theorem dX5_setBlink_54 : decode cX5_setBlink 54 = .ok (.iastore, 1) := by decide +kernel
theorem dX5_setBlink_55 : decode cX5_setBlink 55 = .ok (.aload_n 0, 1) := by decide +kernel
theorem dX5_setBlink_56 : decode cX5_setBlink 56 = .ok (.getfield 10, 3) := by decide +kernel
theorem dX5_setBlink_59 : decode cX5_setBlink 59 = .ok (.getfield 89, 3) := by decide +kernel
theorem dX5_setBlink_62 : decode cX5_setBlink 62 = .ok (.iload_n 1, 1) := by decide +kernel
theorem dX5_setBlink_63 : decode cX5_setBlink 63 = .ok (.iload_n 3, 1) := by decide +kernel
theorem dX5_setBlink_64 : decode cX5_setBlink 64 = .ok (.iastore, 1) := by decide +kernel
theorem dX5_setBlink_65 : decode cX5_setBlink 65 = .ok (.aload_n 0, 1) := by decide +kernel
theorem dX5_setBlink_66 : decode cX5_setBlink 66 = .ok (.getfield 10, 3) := by decide +kernel
theorem dX5_setBlink_69 : decode cX5_setBlink 69 = .ok (.iload_n 1, 1) := by decide +kernel
theorem dX5_setBlink_70 : decode cX5_setBlink 70 = .ok (.invokevirtual 92, 3) := by decide +kernel
theorem dX5_setBlink_73 : decode cX5_setBlink 73 = .ok (.ireturn, 1) := by decide +kernel
set_option maxRecDepth 20000 in
theorem ggX5_set_X5_isWithin : GoodIn wsX5_set wsX5_isWithin := goodIn_r _ [9] (by decide +kernel) (by decide +kernel)
set_option maxRecDepth 20000 in
theorem gX5_set_X5_isWithin : GoodIn wsX5_set (va_wsS RX5 40 yX5_isWithin wsX5_isWithin) := goodIn_app (goodIn_of _ (by decide +kernel)) ggX5_set_X5_isWithin
set_option maxRecDepth 20000 in
theorem ggX5_set_X1_record : GoodIn wsX5_set wsX1_record := goodIn_r _ [14, 15, 16, 17, 18, 19, 20, 21, 22, 23, 24, 25, 26, 27, 28, 29, 30, 31, 32, 33, 34, 35, 36, 37, 38, 39, 40, 41, 42, 43, 44, 45, 46, 47, 48, 49, 50, 51, 52, 53, 54, 55, 56, 57, 58, 77, 78, 79, 64, 65, 66, 67, 68, 69, 70, 71, 72, 73, 74, 75, 76, 80, 81, 82, 83, 84, 85, 86, 87, 88] (by decide +kernel) (by decide +kernel)
set_option maxRecDepth 20000 in
theorem gX5_set_X1_record : GoodIn wsX5_set (wsV RX5 44 RX1 yX1_record wsX1_record) := goodIn_app (goodIn_of _ (by decide +kernel)) ggX5_set_X1_record
theorem dX5_set_0 : decode cX5_set 0 = .ok (.iload_n 1, 1) := by decide +kernel
theorem dX5_set_1 : decode cX5_set 1 = .ok (.iconst 0, 1) := by decide +kernel
theorem dX5_set_2 : decode cX5_set 2 = .ok (.iconst 2, 1) := by decide +kernel
theorem dX5_set_3 : decode cX5_set 3 = .ok (.invokestatic 40, 3) := by decide +kernel
theorem dX5_set_6 : decode cX5_set 6 = .ok (.ifCond .ne 5, 3) := by decide +kernel
theorem dX5_set_9 : decode cX5_set 9 = .ok (.iconst (-1), 1) := by decide +kernel
theorem dX5_set_10 : decode cX5_set 10 = .ok (.ireturn, 1) := by decide +kernel
theorem dX5_set_11 : decode cX5_set 11 = .ok (.iload_n 2, 1) := by decide +kernel
theorem dX5_set_12 : decode cX5_set 12 = .ok (.getstatic 96, 3) := by decide +kernel
theorem dX5_set_15 : decode cX5_set 15 = .ok (.iload_n 1, 1) := by decide +kernel
theorem dX5_set_16 : decode cX5_set 16 = .ok (.iaload, 1) := by decide +kernel
theorem dX5_set_17 : decode cX5_set 17 = .ok (.getstatic 99, 3) := by decide +kernel
theorem dX5_set_20 : decode cX5_set 20 = .ok (.iload_n 1, 1) := by decide +kernel
theorem dX5_set_21 : decode cX5_set 21 = .ok (.iaload, 1) := by decide +kernel
theorem dX5_set_22 : decode cX5_set 22 = .ok (.invokestatic 40, 3) := by decide +kernel
theorem dX5_set_25 : decode cX5_set 25 = .ok (.ifCond .ne 6, 3) := by decide +kernel
theorem dX5_set_28 : decode cX5_set 28 = .ok (.bipush (-2), 2) := by decide +kernel
theorem dX5_set_30 : decode cX5_set 30 = .ok (.ireturn, 1) := by decide +kernel
theorem dX5_set_31 : decode cX5_set 31 = .ok (.aload_n 0, 1) := by decide +kernel
theorem dX5_set_32 : decode cX5_set 32 = .ok (.getfield 22, 3) := by decide +kernel
theorem dX5_set_35 : decode cX5_set 35 = .ok (.aload_n 0, 1) := by decide +kernel
theorem dX5_set_36 : decode cX5_set 36 = .ok (.getfield 10, 3) := by decide +kernel
theorem dX5_set_39 : decode cX5_set 39 = .ok (.invokevirtual 44, 3) := by decide +kernel
theorem dX5_set_42 : decode cX5_set 42 = .ok (.aload_n 0, 1) := by decide +kernel
theorem dX5_set_43 : decode cX5_set 43 = .ok (.getfield 10, 3) := by decide +kernel
theorem dX5_set_46 : decode cX5_set 46 = .ok (.getfield 102, 3) := by decide +kernel
theorem dX5_set_49 : decode cX5_set 49 = .ok (.iload_n 1, 1) := by decide +kernel
theorem dX5_set_50 : decode cX5_set 50 = .ok (.iaload, 1) := by decide +kernel
theorem dX5_set_51 : decode cX5_set 51 = .ok (.istore_n 3, 1) := by decide +kernel
theorem dX5_set_52 : decode cX5_set 52 = .ok (.aload_n 0, 1) := by decide +kernel
theorem dX5_set_53 : decode cX5_set 53 = .ok (.getfield 10, 3) := by decide +kernel
theorem dX5_set_56 : decode cX5_set 56 = .ok (.getfield 102, 3) := by decide +kernel
theorem dX5_set_59 : decode cX5_set 59 = .ok (.iload_n 1, 1) := by decide +kernel
theorem dX5_set_60 : decode cX5_set 60 = .ok (.iload_n 2, 1) := by decide +kernel
theorem dX5_set_61 : decode cX5_set 61 = .ok (.iastore, 1) := by decide +kernel
theorem dX5_set_62 : decode cX5_set 62 = .ok (.iload_n 3, 1) := by decide +kernel
theorem dX5_set_63 : decode cX5_set 63 = .ok (.ireturn, 1) := by decide +kernel
set_option maxRecDepth 20000 in
theorem ggX5_replace_X3_find : GoodIn wsX5_replace wsX3_find := goodIn_r _ [8, 9, 10, 11, 12, 13, 85, 86, 87, 88, 89, 90, 91, 92, 93, 94, 95, 96, 97] (by decide +kernel) (by decide +kernel)
set_option maxRecDepth 20000 in
theorem gX5_replace_X3_find : GoodIn wsX5_replace (wsV RX5 56 RX3 yX3_find wsX3_find) := goodIn_app (goodIn_of _ (by decide +kernel)) ggX5_replace_X3_find
set_option maxRecDepth 20000 in
theorem ggX5_replace_X1_record : GoodIn wsX5_replace wsX1_record := goodIn_r _ [18, 19, 20, 21, 22, 23, 24, 25, 26, 27, 28, 7, 29, 10, 9, 30, 31, 32, 33, 34, 35, 36, 37, 38, 39, 40, 41, 42, 43, 44, 45, 46, 47, 48, 49, 50, 51, 52, 53, 54, 55, 56, 57, 58, 59, 98, 99, 100, 85, 86, 87, 88, 89, 90, 91, 92, 93, 94, 95, 96, 97, 76, 77, 78, 79, 80, 81, 82, 83, 84] (by decide +kernel) (by decide +kernel)
set_option maxRecDepth 20000 in
theorem gX5_replace_X1_record : GoodIn wsX5_replace (wsV RX5 44 RX1 yX1_record wsX1_record) := goodIn_app (goodIn_of _ (by decide +kernel)) ggX5_replace_X1_record
set_option maxRecDepth 20000 in
theorem ggX5_replace_J6_bitCount_0f7a4 : GoodIn wsX5_replace wsJ6_bitCount_0f7a4 := goodIn_r _ [63, 64, 65, 66] (by decide +kernel) (by decide +kernel)
set_option maxRecDepth 20000 in
theorem gX5_replace_J6_bitCount_0f7a4 : GoodIn wsX5_replace (va_wsS RX5 108 yJ6_bitCount_0f7a4 wsJ6_bitCount_0f7a4) := goodIn_app (goodIn_of _ (by decide +kernel)) ggX5_replace_J6_bitCount_0f7a4
set_option maxRecDepth 20000 in
theorem ggX5_replace_X0_renewSegments : GoodIn wsX5_replace wsX0_renewSegments := goodIn_r _ [70, 56, 57, 59, 76, 77, 78, 79, 80, 81, 82, 83, 84] (by decide +kernel) (by decide +kernel)
set_option maxRecDepth 20000 in
theorem gX5_replace_X0_renewSegments : GoodIn wsX5_replace (wsV RX5 113 RX0 yX0_renewSegments wsX0_renewSegments) := goodIn_app (goodIn_of _ (by decide +kernel)) ggX5_replace_X0_renewSegments
theorem dX5_replace_0 : decode cX5_replace 0 = .ok (.aload_n 0, 1) := by decide +kernel
theorem dX5_replace_1 : decode cX5_replace 1 = .ok (.getfield 10, 3) := by decide +kernel
theorem dX5_replace_4 : decode cX5_replace 4 = .ok (.iload_n 1, 1) := by decide +kernel
theorem dX5_replace_5 : decode cX5_replace 5 = .ok (.invokevirtual 56, 3) := by decide +kernel
theorem dX5_replace_8 : decode cX5_replace 8 = .ok (.astore_n 2, 1) := by decide +kernel
theorem dX5_replace_9 : decode cX5_replace 9 = .ok (.aload_n 2, 1) := by decide +kernel
theorem dX5_replace_10 : decode cX5_replace 10 = .ok (.ifnonnull 5, 3) := by decide +kernel
theorem dX5_replace_13 : decode cX5_replace 13 = .ok (.iconst (-1), 1) := by decide +kernel
theorem dX5_replace_14 : decode cX5_replace 14 = .ok (.ireturn, 1) := by decide +kernel
theorem dX5_replace_15 : decode cX5_replace 15 = .ok (.aload_n 0, 1) := by decide +kernel
theorem dX5_replace_16 : decode cX5_replace 16 = .ok (.getfield 22, 3) := by decide +kernel
theorem dX5_replace_19 : decode cX5_replace 19 = .ok (.aload_n 0, 1) := by decide +kernel
theorem dX5_replace_20 : decode cX5_replace 20 = .ok (.getfield 10, 3) := by decide +kernel
theorem dX5_replace_23 : decode cX5_replace 23 = .ok (.invokevirtual 44, 3) := by decide +kernel
theorem dX5_replace_26 : decode cX5_replace 26 = .ok (.aload_n 2, 1) := by decide +kernel
theorem dX5_replace_27 : decode cX5_replace 27 = .ok (.getfield 105, 3) := by decide +kernel
theorem dX5_replace_30 : decode cX5_replace 30 = .ok (.invokestatic 108, 3) := by decide +kernel
theorem dX5_replace_33 : decode cX5_replace 33 = .ok (.istore_n 3, 1) := by decide +kernel
theorem dX5_replace_34 : decode cX5_replace 34 = .ok (.aload_n 2, 1) := by decide +kernel
theorem dX5_replace_35 : decode cX5_replace 35 = .ok (.invokevirtual 113, 3) := by decide +kernel
theorem dX5_replace_38 : decode cX5_replace 38 = .ok (.iload_n 3, 1) := by decide +kernel
theorem dX5_replace_39 : decode cX5_replace 39 = .ok (.ireturn, 1) := by decide +kernel
set_option maxRecDepth 20000 in
theorem ggX5_test_X5_isWithin : GoodIn wsX5_test wsX5_isWithin := goodIn_r _ [7] (by decide +kernel) (by decide +kernel)
set_option maxRecDepth 20000 in
theorem gX5_test_X5_isWithin : GoodIn wsX5_test (va_wsS RX5 40 yX5_isWithin wsX5_isWithin) := goodIn_app (goodIn_of _ (by decide +kernel)) ggX5_test_X5_isWithin
set_option maxRecDepth 20000 in
theorem ggX5_test_X1_record : GoodIn wsX5_test wsX1_record := goodIn_r _ [12, 13, 14, 15, 16, 17, 18, 19, 20, 21, 22, 23, 24, 25, 26, 27, 28, 29, 30, 31, 32, 33, 34, 35, 36, 37, 38, 39, 40, 41, 42, 43, 44, 45, 46, 47, 48, 49, 50, 51, 52, 53, 54, 55, 56, 75, 76, 77, 62, 63, 64, 65, 66, 67, 68, 69, 70, 71, 72, 73, 74, 78, 79, 80, 81, 82, 83, 84, 85, 86] (by decide +kernel) (by decide +kernel)
set_option maxRecDepth 20000 in
theorem gX5_test_X1_record : GoodIn wsX5_test (wsV RX5 44 RX1 yX1_record wsX1_record) := goodIn_app (goodIn_of _ (by decide +kernel)) ggX5_test_X1_record
theorem dX5_test_0 : decode cX5_test 0 = .ok (.iload_n 1, 1) := by decide +kernel
theorem dX5_test_1 : decode cX5_test 1 = .ok (.iconst 0, 1) := by decide +kernel
theorem dX5_test_2 : decode cX5_test 2 = .ok (.bipush 50, 2) := by decide +kernel
theorem dX5_test_4 : decode cX5_test 4 = .ok (.invokestatic 40, 3) := by decide +kernel
theorem dX5_test_7 : decode cX5_test 7 = .ok (.ifCond .ne 6, 3) := by decide +kernel
theorem dX5_test_10 : decode cX5_test 10 = .ok (.bipush (-2), 2) := by decide +kernel
theorem dX5_test_12 : decode cX5_test 12 = .ok (.ireturn, 1) := by decide +kernel
theorem dX5_test_13 : decode cX5_test 13 = .ok (.aload_n 0, 1) := by decide +kernel
theorem dX5_test_14 : decode cX5_test 14 = .ok (.getfield 22, 3) := by decide +kernel
theorem dX5_test_17 : decode cX5_test 17 = .ok (.aload_n 0, 1) := by decide +kernel
theorem dX5_test_18 : decode cX5_test 18 = .ok (.getfield 10, 3) := by decide +kernel
theorem dX5_test_21 : decode cX5_test 21 = .ok (.invokevirtual 44, 3) := by decide +kernel
theorem dX5_test_24 : decode cX5_test 24 = .ok (.aload_n 0, 1) := by decide +kernel
theorem dX5_test_25 : decode cX5_test 25 = .ok (.getfield 10, 3) := by decide +kernel
theorem dX5_test_28 : decode cX5_test 28 = .ok (.getfield 116, 3) := by decide +kernel
theorem dX5_test_31 : decode cX5_test 31 = .ok (.istore_n 2, 1) := by decide +kernel
theorem dX5_test_32 : decode cX5_test 32 = .ok (.aload_n 0, 1) := by decide +kernel
theorem dX5_test_33 : decode cX5_test 33 = .ok (.getfield 10, 3) := by decide +kernel
theorem dX5_test_36 : decode cX5_test 36 = .ok (.iload_n 1, 1) := by decide +kernel
theorem dX5_test_37 : decode cX5_test 37 = .ok (.putfield 116, 3) := by decide +kernel
theorem dX5_test_40 : decode cX5_test 40 = .ok (.iload_n 2, 1) := by decide +kernel
theorem dX5_test_41 : decode cX5_test 41 = .ok (.ireturn, 1) := by decide +kernel
set_option maxRecDepth 20000 in
theorem ggX5_pass_X5_isWithin : GoodIn wsX5_pass wsX5_isWithin := goodIn_r _ [6] (by decide +kernel) (by decide +kernel)
set_option maxRecDepth 20000 in
theorem gX5_pass_X5_isWithin : GoodIn wsX5_pass (va_wsS RX5 40 yX5_isWithin wsX5_isWithin) := goodIn_app (goodIn_of _ (by decide +kernel)) ggX5_pass_X5_isWithin
set_option maxRecDepth 20000 in
theorem ggX5_pass_X1_record : GoodIn wsX5_pass wsX1_record := goodIn_r _ [11, 12, 13, 14, 15, 16, 17, 18, 19, 20, 21, 22, 23, 24, 25, 26, 27, 28, 29, 30, 31, 32, 33, 34, 35, 36, 37, 38, 39, 40, 41, 42, 43, 44, 45, 46, 47, 48, 49, 50, 51, 52, 53, 54, 55, 133, 134, 135, 136, 137, 138, 139, 140, 141, 142, 143, 144, 145, 146, 147, 148, 149, 150, 151, 152, 153, 154, 155, 156, 157] (by decide +kernel) (by decide +kernel)
set_option maxRecDepth 20000 in
theorem gX5_pass_X1_record : GoodIn wsX5_pass (wsV RX5 44 RX1 yX1_record wsX1_record) := goodIn_app (goodIn_of _ (by decide +kernel)) ggX5_pass_X1_record
set_option maxRecDepth 20000 in
theorem ggX5_pass_X3_runTicks : GoodIn wsX5_pass wsX3_runTicks := goodIn_r _ [59, 60, 61, 62, 22, 63, 24, 64, 37, 25, 32, 33, 35, 65, 66, 67, 68, 69, 70, 71, 72, 73, 36, 74, 75, 76, 77, 78, 79, 80, 81, 82, 83, 84, 44, 85, 46, 47, 86, 87, 88, 89, 90, 91, 92, 93, 26, 31, 34, 94, 95, 96, 97, 53, 55, 52, 98, 5, 99, 100, 101, 17, 102, 103, 104, 105, 16, 18, 106, 107, 108, 109, 110, 111, 112, 113, 114, 115, 116, 38, 117, 118, 39, 40, 119, 120, 121, 122, 123, 124, 125, 126, 127, 136, 137, 138, 139, 140, 141, 142, 143, 144, 145, 146, 147, 148, 149, 150, 151, 152, 153, 154, 155, 156, 157] (by decide +kernel) (by decide +kernel)
set_option maxRecDepth 20000 in
theorem gX5_pass_X3_runTicks : GoodIn wsX5_pass (wsV RX5 119 RX3 yX3_runTicks wsX3_runTicks) := goodIn_app (goodIn_of _ (by decide +kernel)) ggX5_pass_X3_runTicks
theorem dX5_pass_0 : decode cX5_pass 0 = .ok (.iload_n 1, 1) := by decide +kernel
theorem dX5_pass_1 : decode cX5_pass 1 = .ok (.iconst 1, 1) := by decide +kernel
theorem dX5_pass_2 : decode cX5_pass 2 = .ok (.sipush 500, 3) := by decide +kernel
theorem dX5_pass_5 : decode cX5_pass 5 = .ok (.invokestatic 40, 3) := by decide +kernel
theorem dX5_pass_8 : decode cX5_pass 8 = .ok (.ifCond .ne 6, 3) := by decide +kernel
theorem dX5_pass_11 : decode cX5_pass 11 = .ok (.bipush (-2), 2) := by decide +kernel
theorem dX5_pass_13 : decode cX5_pass 13 = .ok (.ireturn, 1) := by decide +kernel
theorem dX5_pass_14 : decode cX5_pass 14 = .ok (.aload_n 0, 1) := by decide +kernel
theorem dX5_pass_15 : decode cX5_pass 15 = .ok (.getfield 22, 3) := by decide +kernel
theorem dX5_pass_18 : decode cX5_pass 18 = .ok (.aload_n 0, 1) := by decide +kernel
theorem dX5_pass_19 : decode cX5_pass 19 = .ok (.getfield 10, 3) := by decide +kernel
theorem dX5_pass_22 : decode cX5_pass 22 = .ok (.invokevirtual 44, 3) := by decide +kernel
theorem dX5_pass_25 : decode cX5_pass 25 = .ok (.aload_n 0, 1) := by decide +kernel
theorem dX5_pass_26 : decode cX5_pass 26 = .ok (.getfield 10, 3) := by decide +kernel
theorem dX5_pass_29 : decode cX5_pass 29 = .ok (.iload_n 1, 1) := by decide +kernel
theorem dX5_pass_30 : decode cX5_pass 30 = .ok (.invokevirtual 119, 3) := by decide +kernel
theorem dX5_pass_33 : decode cX5_pass 33 = .ok (.ireturn, 1) := by decide +kernel
set_option maxRecDepth 20000 in
theorem ggX5_passFrames_X5_isWithin : GoodIn wsX5_passFrames wsX5_isWithin := goodIn_r _ [8] (by decide +kernel) (by decide +kernel)
set_option maxRecDepth 20000 in
theorem gX5_passFrames_X5_isWithin : GoodIn wsX5_passFrames (va_wsS RX5 40 yX5_isWithin wsX5_isWithin) := goodIn_app (goodIn_of _ (by decide +kernel)) ggX5_passFrames_X5_isWithin
set_option maxRecDepth 20000 in
theorem ggX5_passFrames_X1_record : GoodIn wsX5_passFrames wsX1_record := goodIn_r _ [13, 14, 15, 16, 17, 18, 19, 20, 21, 22, 23, 24, 25, 26, 27, 28, 29, 30, 31, 32, 33, 34, 35, 36, 37, 38, 39, 40, 41, 42, 43, 44, 45, 46, 47, 48, 49, 50, 51, 52, 53, 54, 55, 56, 57, 149, 150, 151, 136, 137, 138, 139, 140, 141, 142, 143, 144, 145, 146, 147, 148, 152, 153, 154, 155, 156, 157, 158, 159, 160] (by decide +kernel) (by decide +kernel)
set_option maxRecDepth 20000 in
theorem gX5_passFrames_X1_record : GoodIn wsX5_passFrames (wsV RX5 44 RX1 yX1_record wsX1_record) := goodIn_app (goodIn_of _ (by decide +kernel)) ggX5_passFrames_X1_record
set_option maxRecDepth 20000 in
theorem ggX5_passFrames_X3_frameLength : GoodIn wsX5_passFrames wsX3_frameLength := goodIn_r _ [61, 27, 62, 63, 64, 24, 65, 26, 66, 136, 137, 138, 139, 140, 141, 142, 143, 144, 145, 146, 147, 148, 152, 153, 154, 155, 156, 157, 158, 159, 160] (by decide +kernel) (by decide +kernel)
set_option maxRecDepth 20000 in
theorem gX5_passFrames_X3_frameLength : GoodIn wsX5_passFrames (wsV RX5 64 RX3 yX3_frameLength wsX3_frameLength) := goodIn_app (goodIn_of _ (by decide +kernel)) ggX5_passFrames_X3_frameLength
set_option maxRecDepth 20000 in
theorem ggX5_passFrames_X3_runTicks : GoodIn wsX5_passFrames wsX3_runTicks := goodIn_r _ [70, 71, 72, 73, 24, 74, 26, 75, 39, 27, 34, 35, 37, 76, 77, 78, 79, 66, 80, 81, 82, 83, 38, 84, 85, 86, 87, 88, 89, 90, 91, 92, 93, 94, 46, 95, 48, 49, 62, 63, 64, 65, 96, 97, 98, 99, 28, 33, 36, 100, 101, 102, 103, 55, 57, 54, 104, 7, 105, 106, 107, 19, 108, 109, 110, 111, 18, 20, 112, 113, 114, 115, 116, 117, 118, 119, 120, 121, 122, 40, 123, 124, 41, 42, 125, 126, 59, 60, 61, 127, 128, 129, 130, 136, 137, 138, 139, 140, 141, 142, 143, 144, 145, 146, 147, 148, 152, 153, 154, 155, 156, 157, 158, 159, 160] (by decide +kernel) (by decide +kernel)
set_option maxRecDepth 20000 in
theorem gX5_passFrames_X3_runTicks : GoodIn wsX5_passFrames (wsV RX5 119 RX3 yX3_runTicks wsX3_runTicks) := goodIn_app (goodIn_of _ (by decide +kernel)) ggX5_passFrames_X3_runTicks
theorem dX5_passFrames_0 : decode cX5_passFrames 0 = .ok (.iload_n 1, 1) := by decide +kernel
theorem dX5_passFrames_1 : decode cX5_passFrames 1 = .ok (.iconst 1, 1) := by decide +kernel
theorem dX5_passFrames_2 : decode cX5_passFrames 2 = .ok (.bipush 20, 2) := by decide +kernel
theorem dX5_passFrames_4 : decode cX5_passFrames 4 = .ok (.invokestatic 40, 3) := by decide +kernel
theorem dX5_passFrames_7 : decode cX5_passFrames 7 = .ok (.ifCond .ne 6, 3) := by decide +kernel
theorem dX5_passFrames_10 : decode cX5_passFrames 10 = .ok (.bipush (-2), 2) := by decide +kernel
theorem dX5_passFrames_12 : decode cX5_passFrames 12 = .ok (.ireturn, 1) := by decide +kernel
theorem dX5_passFrames_13 : decode cX5_passFrames 13 = .ok (.aload_n 0, 1) := by decide +kernel
theorem dX5_passFrames_14 : decode cX5_passFrames 14 = .ok (.getfield 22, 3) := by decide +kernel
theorem dX5_passFrames_17 : decode cX5_passFrames 17 = .ok (.aload_n 0, 1) := by decide +kernel
theorem dX5_passFrames_18 : decode cX5_passFrames 18 = .ok (.getfield 10, 3) := by decide +kernel
theorem dX5_passFrames_21 : decode cX5_passFrames 21 = .ok (.invokevirtual 44, 3) := by decide +kernel
theorem dX5_passFrames_24 : decode cX5_passFrames 24 = .ok (.aload_n 0, 1) := by decide +kernel
theorem dX5_passFrames_25 : decode cX5_passFrames 25 = .ok (.getfield 10, 3) := by decide +kernel
theorem dX5_passFrames_28 : decode cX5_passFrames 28 = .ok (.invokevirtual 64, 3) := by decide +kernel
theorem dX5_passFrames_31 : decode cX5_passFrames 31 = .ok (.istore_n 2, 1) := by decide +kernel
theorem dX5_passFrames_32 : decode cX5_passFrames 32 = .ok (.aload_n 0, 1) := by decide +kernel
theorem dX5_passFrames_33 : decode cX5_passFrames 33 = .ok (.getfield 10, 3) := by decide +kernel
theorem dX5_passFrames_36 : decode cX5_passFrames 36 = .ok (.iload_n 1, 1) := by decide +kernel
theorem dX5_passFrames_37 : decode cX5_passFrames 37 = .ok (.iload_n 2, 1) := by decide +kernel
theorem dX5_passFrames_38 : decode cX5_passFrames 38 = .ok (.imul, 1) := by decide +kernel
theorem dX5_passFrames_39 : decode cX5_passFrames 39 = .ok (.aload_n 0, 1) := by decide +kernel
theorem dX5_passFrames_40 : decode cX5_passFrames 40 = .ok (.getfield 10, 3) := by decide +kernel
theorem dX5_passFrames_43 : decode cX5_passFrames 43 = .ok (.getfield 122, 3) := by decide +kernel
theorem dX5_passFrames_46 : decode cX5_passFrames 46 = .ok (.isub, 1) := by decide +kernel
theorem dX5_passFrames_47 : decode cX5_passFrames 47 = .ok (.invokevirtual 119, 3) := by decide +kernel
theorem dX5_passFrames_50 : decode cX5_passFrames 50 = .ok (.pop, 1) := by decide +kernel
theorem dX5_passFrames_51 : decode cX5_passFrames 51 = .ok (.aload_n 0, 1) := by decide +kernel
theorem dX5_passFrames_52 : decode cX5_passFrames 52 = .ok (.getfield 10, 3) := by decide +kernel
theorem dX5_passFrames_55 : decode cX5_passFrames 55 = .ok (.getfield 125, 3) := by decide +kernel
theorem dX5_passFrames_58 : decode cX5_passFrames 58 = .ok (.ireturn, 1) := by decide +kernel
set_option maxRecDepth 20000 in
theorem ggX5_type_X4_isFull : GoodIn wsX5_type wsX4_isFull := goodIn_r _ [7, 8, 19, 20, 21, 22] (by decide +kernel) (by decide +kernel)
set_option maxRecDepth 20000 in
theorem gX5_type_X4_isFull : GoodIn wsX5_type (wsV RX5 128 RX4 yX4_isFull wsX4_isFull) := goodIn_app (goodIn_of _ (by decide +kernel)) ggX5_type_X4_isFull
set_option maxRecDepth 20000 in
theorem ggX5_type_X4_append : GoodIn wsX5_type wsX4_append := goodIn_r _ [12, 13, 8, 19, 20, 21, 22] (by decide +kernel) (by decide +kernel)
set_option maxRecDepth 20000 in
theorem gX5_type_X4_append : GoodIn wsX5_type (wsV RX5 132 RX4 yX4_append wsX4_append) := goodIn_app (goodIn_of _ (by decide +kernel)) ggX5_type_X4_append
theorem dX5_type_0 : decode cX5_type 0 = .ok (.aload_n 0, 1) := by decide +kernel
theorem dX5_type_1 : decode cX5_type 1 = .ok (.getfield 35, 3) := by decide +kernel
theorem dX5_type_4 : decode cX5_type 4 = .ok (.invokevirtual 128, 3) := by decide +kernel
theorem dX5_type_7 : decode cX5_type 7 = .ok (.ifCond .eq 6, 3) := by decide +kernel
theorem dX5_type_10 : decode cX5_type 10 = .ok (.bipush (-3), 2) := by decide +kernel
theorem dX5_type_12 : decode cX5_type 12 = .ok (.ireturn, 1) := by decide +kernel
theorem dX5_type_13 : decode cX5_type 13 = .ok (.aload_n 0, 1) := by decide +kernel
theorem dX5_type_14 : decode cX5_type 14 = .ok (.getfield 35, 3) := by decide +kernel
theorem dX5_type_17 : decode cX5_type 17 = .ok (.iload_n 1, 1) := by decide +kernel
theorem dX5_type_18 : decode cX5_type 18 = .ok (.invokevirtual 132, 3) := by decide +kernel
theorem dX5_type_21 : decode cX5_type 21 = .ok (.aload_n 0, 1) := by decide +kernel
theorem dX5_type_22 : decode cX5_type 22 = .ok (.getfield 35, 3) := by decide +kernel
theorem dX5_type_25 : decode cX5_type 25 = .ok (.getfield 136, 3) := by decide +kernel
theorem dX5_type_28 : decode cX5_type 28 = .ok (.ireturn, 1) := by decide +kernel
theorem dX5_clearText_0 : decode cX5_clearText 0 = .ok (.aload_n 0, 1) := by decide +kernel
theorem dX5_clearText_1 : decode cX5_clearText 1 = .ok (.getfield 35, 3) := by decide +kernel
theorem dX5_clearText_4 : decode cX5_clearText 4 = .ok (.getfield 136, 3) := by decide +kernel
theorem dX5_clearText_7 : decode cX5_clearText 7 = .ok (.istore_n 1, 1) := by decide +kernel
theorem dX5_clearText_8 : decode cX5_clearText 8 = .ok (.aload_n 0, 1) := by decide +kernel
theorem dX5_clearText_9 : decode cX5_clearText 9 = .ok (.getfield 35, 3) := by decide +kernel
theorem dX5_clearText_12 : decode cX5_clearText 12 = .ok (.iconst 0, 1) := by decide +kernel
theorem dX5_clearText_13 : decode cX5_clearText 13 = .ok (.putfield 136, 3) := by decide +kernel
theorem dX5_clearText_16 : decode cX5_clearText 16 = .ok (.iload_n 1, 1) := by decide +kernel
theorem dX5_clearText_17 : decode cX5_clearText 17 = .ok (.ireturn, 1) := by decide +kernel
set_option maxRecDepth 20000 in
theorem ggX5_show_X4_layOut : GoodIn wsX5_show wsX4_layOut := goodIn_r _ [11, 12, 13, 14, 15, 16, 17, 18, 19, 20, 93, 94, 95, 96] (by decide +kernel) (by decide +kernel)
set_option maxRecDepth 20000 in
theorem gX5_show_X4_layOut : GoodIn wsX5_show (wsV RX5 139 RX4 yX4_layOut wsX4_layOut) := goodIn_app (goodIn_of _ (by decide +kernel)) ggX5_show_X4_layOut
set_option maxRecDepth 20000 in
theorem ggX5_show_X1_record : GoodIn wsX5_show wsX1_record := goodIn_r _ [25, 26, 27, 28, 29, 30, 31, 32, 33, 34, 35, 36, 37, 38, 39, 40, 41, 42, 43, 44, 45, 46, 47, 48, 49, 50, 51, 52, 53, 54, 55, 56, 57, 58, 59, 60, 61, 62, 63, 64, 65, 66, 67, 68, 69, 97, 98, 99, 80, 81, 82, 83, 84, 85, 86, 87, 88, 89, 90, 91, 92, 100, 101, 102, 103, 104, 105, 106, 107, 108] (by decide +kernel) (by decide +kernel)
set_option maxRecDepth 20000 in
theorem gX5_show_X1_record : GoodIn wsX5_show (wsV RX5 44 RX1 yX1_record wsX1_record) := goodIn_app (goodIn_of _ (by decide +kernel)) ggX5_show_X1_record
set_option maxRecDepth 20000 in
theorem ggX5_show_X3_takePatterns : GoodIn wsX5_show wsX3_takePatterns := goodIn_r _ [73, 39, 38, 74, 80, 81, 82, 83, 84, 85, 86, 87, 88, 89, 90, 91, 92, 100, 101, 102, 103, 104, 105, 106, 107, 108] (by decide +kernel) (by decide +kernel)
set_option maxRecDepth 20000 in
theorem gX5_show_X3_takePatterns : GoodIn wsX5_show (wsV RX5 145 RX3 yX3_takePatterns wsX3_takePatterns) := goodIn_app (goodIn_of _ (by decide +kernel)) ggX5_show_X3_takePatterns
theorem dX5_show_0 : decode cX5_show 0 = .ok (.aload_n 0, 1) := by decide +kernel
theorem dX5_show_1 : decode cX5_show 1 = .ok (.getfield 35, 3) := by decide +kernel
theorem dX5_show_4 : decode cX5_show 4 = .ok (.aload_n 0, 1) := by decide +kernel
theorem dX5_show_5 : decode cX5_show 5 = .ok (.getfield 10, 3) := by decide +kernel
theorem dX5_show_8 : decode cX5_show 8 = .ok (.getfield 48, 3) := by decide +kernel
theorem dX5_show_11 : decode cX5_show 11 = .ok (.invokevirtual 139, 3) := by decide +kernel
theorem dX5_show_14 : decode cX5_show 14 = .ok (.istore_n 1, 1) := by decide +kernel
theorem dX5_show_15 : decode cX5_show 15 = .ok (.iload_n 1, 1) := by decide +kernel
theorem dX5_show_16 : decode cX5_show 16 = .ok (.ifCond .lt 8, 3) := by decide +kernel
theorem dX5_show_19 : decode cX5_show 19 = .ok (.bipush (-100), 2) := by decide +kernel
theorem dX5_show_21 : decode cX5_show 21 = .ok (.iload_n 1, 1) := by decide +kernel
theorem dX5_show_22 : decode cX5_show 22 = .ok (.isub, 1) := by decide +kernel
theorem dX5_show_23 : decode cX5_show 23 = .ok (.ireturn, 1) := by decide +kernel
theorem dX5_show_24 : decode cX5_show 24 = .ok (.aload_n 0, 1) := by decide +kernel
theorem dX5_show_25 : decode cX5_show 25 = .ok (.getfield 22, 3) := by decide +kernel
theorem dX5_show_28 : decode cX5_show 28 = .ok (.aload_n 0, 1) := by decide +kernel
theorem dX5_show_29 : decode cX5_show 29 = .ok (.getfield 10, 3) := by decide +kernel
theorem dX5_show_32 : decode cX5_show 32 = .ok (.invokevirtual 44, 3) := by decide +kernel
theorem dX5_show_35 : decode cX5_show 35 = .ok (.aload_n 0, 1) := by decide +kernel
theorem dX5_show_36 : decode cX5_show 36 = .ok (.getfield 10, 3) := by decide +kernel
theorem dX5_show_39 : decode cX5_show 39 = .ok (.aload_n 0, 1) := by decide +kernel
theorem dX5_show_40 : decode cX5_show 40 = .ok (.getfield 35, 3) := by decide +kernel
theorem dX5_show_43 : decode cX5_show 43 = .ok (.getfield 142, 3) := by decide +kernel
theorem dX5_show_46 : decode cX5_show 46 = .ok (.invokevirtual 145, 3) := by decide +kernel
theorem dX5_show_49 : decode cX5_show 49 = .ok (.aload_n 0, 1) := by decide +kernel
theorem dX5_show_50 : decode cX5_show 50 = .ok (.getfield 35, 3) := by decide +kernel
theorem dX5_show_53 : decode cX5_show 53 = .ok (.getfield 149, 3) := by decide +kernel
theorem dX5_show_56 : decode cX5_show 56 = .ok (.ireturn, 1) := by decide +kernel
set_option maxRecDepth 20000 in
theorem ggX5_undo_X1_takeBack : GoodIn wsX5_undo wsX1_takeBack := goodIn_r _ [8, 9, 10, 11, 12, 13, 14, 15, 16, 17, 18, 19, 20, 21, 22, 23, 24, 25, 26, 27, 28, 29, 30, 31, 32, 33, 34, 35, 36, 37, 38, 39, 40, 41, 42, 43, 44, 45, 46, 47, 48, 54, 55, 56, 57, 58, 59, 60, 61, 62, 63, 64, 65, 66, 67, 68, 69, 70, 71, 72, 73, 74, 75, 76, 77, 78] (by decide +kernel) (by decide +kernel)
set_option maxRecDepth 20000 in
theorem gX5_undo_X1_takeBack : GoodIn wsX5_undo (wsV RX5 155 RX1 yX1_takeBack wsX1_takeBack) := goodIn_app (goodIn_of _ (by decide +kernel)) ggX5_undo_X1_takeBack
theorem dX5_undo_0 : decode cX5_undo 0 = .ok (.aload_n 0, 1) := by decide +kernel
theorem dX5_undo_1 : decode cX5_undo 1 = .ok (.getfield 22, 3) := by decide +kernel
theorem dX5_undo_4 : decode cX5_undo 4 = .ok (.getfield 152, 3) := by decide +kernel
theorem dX5_undo_7 : decode cX5_undo 7 = .ok (.ifCond .ne 6, 3) := by decide +kernel
theorem dX5_undo_10 : decode cX5_undo 10 = .ok (.bipush (-4), 2) := by decide +kernel
theorem dX5_undo_12 : decode cX5_undo 12 = .ok (.ireturn, 1) := by decide +kernel
theorem dX5_undo_13 : decode cX5_undo 13 = .ok (.aload_n 0, 1) := by decide +kernel
theorem dX5_undo_14 : decode cX5_undo 14 = .ok (.getfield 22, 3) := by decide +kernel
theorem dX5_undo_17 : decode cX5_undo 17 = .ok (.aload_n 0, 1) := by decide +kernel
theorem dX5_undo_18 : decode cX5_undo 18 = .ok (.getfield 10, 3) := by decide +kernel
theorem dX5_undo_21 : decode cX5_undo 21 = .ok (.invokevirtual 155, 3) := by decide +kernel
theorem dX5_undo_24 : decode cX5_undo 24 = .ok (.aload_n 0, 1) := by decide +kernel
theorem dX5_undo_25 : decode cX5_undo 25 = .ok (.getfield 22, 3) := by decide +kernel
theorem dX5_undo_28 : decode cX5_undo 28 = .ok (.getfield 152, 3) := by decide +kernel
theorem dX5_undo_31 : decode cX5_undo 31 = .ok (.ireturn, 1) := by decide +kernel
set_option maxRecDepth 20000 in
theorem ggX5_keep_X5_isWithin : GoodIn wsX5_keep wsX5_isWithin := goodIn_r _ [9] (by decide +kernel) (by decide +kernel)
set_option maxRecDepth 20000 in
theorem gX5_keep_X5_isWithin : GoodIn wsX5_keep (va_wsS RX5 40 yX5_isWithin wsX5_isWithin) := goodIn_app (goodIn_of _ (by decide +kernel)) ggX5_keep_X5_isWithin
set_option maxRecDepth 20000 in
theorem ggX5_keep_X3_copyFrom : GoodIn wsX5_keep wsX3_copyFrom := goodIn_r _ [14, 15, 16, 17, 18, 19, 20, 21, 22, 23, 24, 25, 26, 27, 28, 29, 30, 31, 32, 33, 34, 35, 36, 37, 38, 39, 40, 41, 42, 43, 44, 45, 46, 54, 55, 56, 57, 58, 59, 60, 61, 62, 63, 64, 65, 66, 67, 68, 69, 70, 71, 72, 73, 74, 75] (by decide +kernel) (by decide +kernel)
set_option maxRecDepth 20000 in
theorem gX5_keep_X3_copyFrom : GoodIn wsX5_keep (wsV RX5 161 RX3 yX3_copyFrom wsX3_copyFrom) := goodIn_app (goodIn_of _ (by decide +kernel)) ggX5_keep_X3_copyFrom
theorem dX5_keep_0 : decode cX5_keep 0 = .ok (.iload_n 1, 1) := by decide +kernel
theorem dX5_keep_1 : decode cX5_keep 1 = .ok (.iconst 0, 1) := by decide +kernel
theorem dX5_keep_2 : decode cX5_keep 2 = .ok (.aload_n 0, 1) := by decide +kernel
theorem dX5_keep_3 : decode cX5_keep 3 = .ok (.getfield 28, 3) := by decide +kernel
theorem dX5_keep_6 : decode cX5_keep 6 = .ok (.arraylength, 1) := by decide +kernel
theorem dX5_keep_7 : decode cX5_keep 7 = .ok (.iconst 1, 1) := by decide +kernel
theorem dX5_keep_8 : decode cX5_keep 8 = .ok (.isub, 1) := by decide +kernel
theorem dX5_keep_9 : decode cX5_keep 9 = .ok (.invokestatic 40, 3) := by decide +kernel
theorem dX5_keep_12 : decode cX5_keep 12 = .ok (.ifCond .ne 5, 3) := by decide +kernel
theorem dX5_keep_15 : decode cX5_keep 15 = .ok (.iconst (-1), 1) := by decide +kernel
theorem dX5_keep_16 : decode cX5_keep 16 = .ok (.ireturn, 1) := by decide +kernel
theorem dX5_keep_17 : decode cX5_keep 17 = .ok (.aload_n 0, 1) := by decide +kernel
theorem dX5_keep_18 : decode cX5_keep 18 = .ok (.getfield 28, 3) := by decide +kernel
theorem dX5_keep_21 : decode cX5_keep 21 = .ok (.iload_n 1, 1) := by decide +kernel
theorem dX5_keep_22 : decode cX5_keep 22 = .ok (.aaload, 1) := by decide +kernel
theorem dX5_keep_23 : decode cX5_keep 23 = .ok (.getfield 158, 3) := by decide +kernel
theorem dX5_keep_26 : decode cX5_keep 26 = .ok (.aload_n 0, 1) := by decide +kernel
theorem dX5_keep_27 : decode cX5_keep 27 = .ok (.getfield 10, 3) := by decide +kernel
theorem dX5_keep_30 : decode cX5_keep 30 = .ok (.invokevirtual 161, 3) := by decide +kernel
theorem dX5_keep_33 : decode cX5_keep 33 = .ok (.aload_n 0, 1) := by decide +kernel
theorem dX5_keep_34 : decode cX5_keep 34 = .ok (.getfield 28, 3) := by decide +kernel
theorem dX5_keep_37 : decode cX5_keep 37 = .ok (.iload_n 1, 1) := by decide +kernel
theorem dX5_keep_38 : decode cX5_keep 38 = .ok (.aaload, 1) := by decide +kernel
theorem dX5_keep_39 : decode cX5_keep 39 = .ok (.iconst 1, 1) := by decide +kernel
theorem dX5_keep_40 : decode cX5_keep 40 = .ok (.putfield 164, 3) := by decide +kernel
theorem dX5_keep_43 : decode cX5_keep 43 = .ok (.aload_n 0, 1) := by decide +kernel
theorem dX5_keep_44 : decode cX5_keep 44 = .ok (.getfield 10, 3) := by decide +kernel
theorem dX5_keep_47 : decode cX5_keep 47 = .ok (.getfield 125, 3) := by decide +kernel
theorem dX5_keep_50 : decode cX5_keep 50 = .ok (.ireturn, 1) := by decide +kernel
set_option maxRecDepth 20000 in
theorem ggX5_restore_X5_isWithin : GoodIn wsX5_restore wsX5_isWithin := goodIn_r _ [10] (by decide +kernel) (by decide +kernel)
set_option maxRecDepth 20000 in
theorem gX5_restore_X5_isWithin : GoodIn wsX5_restore (va_wsS RX5 40 yX5_isWithin wsX5_isWithin) := goodIn_app (goodIn_of _ (by decide +kernel)) ggX5_restore_X5_isWithin
set_option maxRecDepth 20000 in
theorem ggX5_restore_X1_record : GoodIn wsX5_restore wsX1_record := goodIn_r _ [15, 16, 17, 18, 19, 20, 21, 22, 23, 24, 25, 26, 27, 28, 29, 30, 31, 32, 33, 34, 35, 36, 37, 38, 39, 40, 41, 42, 43, 44, 45, 46, 47, 48, 49, 50, 51, 52, 53, 54, 55, 56, 57, 58, 59, 81, 82, 83, 68, 69, 70, 71, 72, 73, 74, 75, 76, 77, 78, 79, 80, 84, 85, 86, 87, 88, 89, 90, 91, 92] (by decide +kernel) (by decide +kernel)
set_option maxRecDepth 20000 in
theorem gX5_restore_X1_record : GoodIn wsX5_restore (wsV RX5 44 RX1 yX1_record wsX1_record) := goodIn_app (goodIn_of _ (by decide +kernel)) ggX5_restore_X1_record
set_option maxRecDepth 20000 in
theorem ggX5_restore_X3_copyFrom : GoodIn wsX5_restore wsX3_copyFrom := goodIn_r _ [27, 28, 29, 30, 31, 32, 33, 34, 35, 36, 37, 38, 39, 40, 41, 42, 43, 44, 45, 46, 47, 48, 49, 50, 51, 52, 53, 54, 55, 56, 57, 58, 59, 68, 69, 70, 71, 72, 73, 74, 75, 76, 77, 78, 79, 80, 84, 85, 86, 87, 88, 89, 90, 91, 92] (by decide +kernel) (by decide +kernel)
set_option maxRecDepth 20000 in
theorem gX5_restore_X3_copyFrom : GoodIn wsX5_restore (wsV RX5 161 RX3 yX3_copyFrom wsX3_copyFrom) := goodIn_app (goodIn_of _ (by decide +kernel)) ggX5_restore_X3_copyFrom
theorem dX5_restore_0 : decode cX5_restore 0 = .ok (.iload_n 1, 1) := by decide +kernel
theorem dX5_restore_1 : decode cX5_restore 1 = .ok (.iconst 0, 1) := by decide +kernel
theorem dX5_restore_2 : decode cX5_restore 2 = .ok (.aload_n 0, 1) := by decide +kernel
theorem dX5_restore_3 : decode cX5_restore 3 = .ok (.getfield 28, 3) := by decide +kernel
theorem dX5_restore_6 : decode cX5_restore 6 = .ok (.arraylength, 1) := by decide +kernel
theorem dX5_restore_7 : decode cX5_restore 7 = .ok (.iconst 1, 1) := by decide +kernel
theorem dX5_restore_8 : decode cX5_restore 8 = .ok (.isub, 1) := by decide +kernel
theorem dX5_restore_9 : decode cX5_restore 9 = .ok (.invokestatic 40, 3) := by decide +kernel
theorem dX5_restore_12 : decode cX5_restore 12 = .ok (.ifCond .ne 5, 3) := by decide +kernel
theorem dX5_restore_15 : decode cX5_restore 15 = .ok (.iconst (-1), 1) := by decide +kernel
theorem dX5_restore_16 : decode cX5_restore 16 = .ok (.ireturn, 1) := by decide +kernel
theorem dX5_restore_17 : decode cX5_restore 17 = .ok (.aload_n 0, 1) := by decide +kernel
theorem dX5_restore_18 : decode cX5_restore 18 = .ok (.getfield 28, 3) := by decide +kernel
theorem dX5_restore_21 : decode cX5_restore 21 = .ok (.iload_n 1, 1) := by decide +kernel
theorem dX5_restore_22 : decode cX5_restore 22 = .ok (.aaload, 1) := by decide +kernel
theorem dX5_restore_23 : decode cX5_restore 23 = .ok (.getfield 164, 3) := by decide +kernel
theorem dX5_restore_26 : decode cX5_restore 26 = .ok (.ifCond .ne 6, 3) := by decide +kernel
theorem dX5_restore_29 : decode cX5_restore 29 = .ok (.bipush (-4), 2) := by decide +kernel
theorem dX5_restore_31 : decode cX5_restore 31 = .ok (.ireturn, 1) := by decide +kernel
theorem dX5_restore_32 : decode cX5_restore 32 = .ok (.aload_n 0, 1) := by decide +kernel
theorem dX5_restore_33 : decode cX5_restore 33 = .ok (.getfield 22, 3) := by decide +kernel
theorem dX5_restore_36 : decode cX5_restore 36 = .ok (.aload_n 0, 1) := by decide +kernel
theorem dX5_restore_37 : decode cX5_restore 37 = .ok (.getfield 10, 3) := by decide +kernel
theorem dX5_restore_40 : decode cX5_restore 40 = .ok (.invokevirtual 44, 3) := by decide +kernel
theorem dX5_restore_43 : decode cX5_restore 43 = .ok (.aload_n 0, 1) := by decide +kernel
theorem dX5_restore_44 : decode cX5_restore 44 = .ok (.getfield 10, 3) := by decide +kernel
theorem dX5_restore_47 : decode cX5_restore 47 = .ok (.aload_n 0, 1) := by decide +kernel
theorem dX5_restore_48 : decode cX5_restore 48 = .ok (.getfield 28, 3) := by decide +kernel
theorem dX5_restore_51 : decode cX5_restore 51 = .ok (.iload_n 1, 1) := by decide +kernel
theorem dX5_restore_52 : decode cX5_restore 52 = .ok (.aaload, 1) := by decide +kernel
theorem dX5_restore_53 : decode cX5_restore 53 = .ok (.getfield 158, 3) := by decide +kernel
theorem dX5_restore_56 : decode cX5_restore 56 = .ok (.invokevirtual 161, 3) := by decide +kernel
theorem dX5_restore_59 : decode cX5_restore 59 = .ok (.aload_n 0, 1) := by decide +kernel
theorem dX5_restore_60 : decode cX5_restore 60 = .ok (.getfield 10, 3) := by decide +kernel
theorem dX5_restore_63 : decode cX5_restore 63 = .ok (.getfield 125, 3) := by decide +kernel
theorem dX5_restore_66 : decode cX5_restore 66 = .ok (.ireturn, 1) := by decide +kernel
set_option maxRecDepth 20000 in
theorem ggX5_digit_X3_find : GoodIn wsX5_digit wsX3_find := goodIn_r _ [14, 15, 16, 17, 18, 19, 65, 66, 67, 68, 69, 70, 71, 72, 73, 74, 75, 76, 77] (by decide +kernel) (by decide +kernel)
set_option maxRecDepth 20000 in
theorem gX5_digit_X3_find : GoodIn wsX5_digit (wsV RX5 56 RX3 yX3_find wsX3_find) := goodIn_app (goodIn_of _ (by decide +kernel)) ggX5_digit_X3_find
set_option maxRecDepth 20000 in
theorem ggX5_digit_X0_litPart : GoodIn wsX5_digit wsX0_litPart := goodIn_r _ [24, 25, 26, 27, 28, 23, 29, 30, 31, 56, 57, 58, 59, 60, 61, 62, 63, 64] (by decide +kernel) (by decide +kernel)
set_option maxRecDepth 20000 in
theorem gX5_digit_X0_litPart : GoodIn wsX5_digit (wsV RX5 73 RX0 yX0_litPart wsX0_litPart) := goodIn_app (goodIn_of _ (by decide +kernel)) ggX5_digit_X0_litPart
set_option maxRecDepth 20000 in
theorem ggX5_digit_X3_slotStart : GoodIn wsX5_digit wsX3_slotStart := goodIn_r _ [35, 16, 36, 65, 66, 67, 68, 69, 70, 71, 72, 73, 74, 75, 76, 77, 56, 57, 58, 59, 60, 61, 62, 63, 64] (by decide +kernel) (by decide +kernel)
set_option maxRecDepth 20000 in
theorem gX5_digit_X3_slotStart : GoodIn wsX5_digit (wsV RX5 171 RX3 yX3_slotStart wsX3_slotStart) := goodIn_app (goodIn_of _ (by decide +kernel)) ggX5_digit_X3_slotStart
set_option maxRecDepth 20000 in
theorem ggX5_digit_X0_seen : GoodIn wsX5_digit wsX0_seen := goodIn_r _ [40, 41, 56, 57, 58, 59, 60, 61, 62, 63, 64] (by decide +kernel) (by decide +kernel)
set_option maxRecDepth 20000 in
theorem gX5_digit_X0_seen : GoodIn wsX5_digit (wsV RX5 174 RX0 yX0_seen wsX0_seen) := goodIn_app (goodIn_of _ (by decide +kernel)) ggX5_digit_X0_seen
set_option maxRecDepth 20000 in
theorem ggX5_digit_X0_glowSum : GoodIn wsX5_digit wsX0_glowSum := goodIn_r _ [45, 41, 56, 57, 58, 59, 60, 61, 62, 63, 64] (by decide +kernel) (by decide +kernel)
set_option maxRecDepth 20000 in
theorem gX5_digit_X0_glowSum : GoodIn wsX5_digit (wsV RX5 177 RX0 yX0_glowSum wsX0_glowSum) := goodIn_app (goodIn_of _ (by decide +kernel)) ggX5_digit_X0_glowSum
set_option maxRecDepth 20000 in
theorem ggX5_digit_X5_characterOf : GoodIn wsX5_digit wsX5_characterOf := goodIn_r _ [48, 49, 50] (by decide +kernel) (by decide +kernel)
set_option maxRecDepth 20000 in
theorem gX5_digit_X5_characterOf : GoodIn wsX5_digit (va_wsS RX5 180 yX5_characterOf wsX5_characterOf) := goodIn_app (goodIn_of _ (by decide +kernel)) ggX5_digit_X5_characterOf
theorem dX5_digit_0 : decode cX5_digit 0 = .ok (.aload_n 0, 1) := by decide +kernel
theorem dX5_digit_1 : decode cX5_digit 1 = .ok (.getfield 10, 3) := by decide +kernel
theorem dX5_digit_4 : decode cX5_digit 4 = .ok (.iload_n 1, 1) := by decide +kernel
theorem dX5_digit_5 : decode cX5_digit 5 = .ok (.invokevirtual 56, 3) := by decide +kernel
theorem dX5_digit_8 : decode cX5_digit 8 = .ok (.astore_n 3, 1) := by decide +kernel
theorem dX5_digit_9 : decode cX5_digit 9 = .ok (.aload_n 3, 1) := by decide +kernel
theorem dX5_digit_10 : decode cX5_digit 10 = .ok (.ifnonnull 5, 3) := by decide +kernel
theorem dX5_digit_13 : decode cX5_digit 13 = .ok (.iconst (-1), 1) := by decide +kernel
theorem dX5_digit_14 : decode cX5_digit 14 = .ok (.ireturn, 1) := by decide +kernel
theorem dX5_digit_15 : decode cX5_digit 15 = .ok (.iload_n 2, 1) := by decide +kernel
theorem dX5_digit_16 : decode cX5_digit 16 = .ok (.tableswitch 144 0 11 #[64, 69, 74, 79, 84, 89, 94, 103, 117, 122, 127, 139], 64) := by decide +kernel
theorem dX5_digit_80 : decode cX5_digit 80 = .ok (.aload_n 3, 1) := by decide +kernel
theorem dX5_digit_81 : decode cX5_digit 81 = .ok (.getfield 79, 3) := by decide +kernel
theorem dX5_digit_84 : decode cX5_digit 84 = .ok (.ireturn, 1) := by decide +kernel
theorem dX5_digit_85 : decode cX5_digit 85 = .ok (.aload_n 3, 1) := by decide +kernel
theorem dX5_digit_86 : decode cX5_digit 86 = .ok (.getfield 168, 3) := by decide +kernel
theorem dX5_digit_89 : decode cX5_digit 89 = .ok (.ireturn, 1) := by decide +kernel
theorem dX5_digit_90 : decode cX5_digit 90 = .ok (.aload_n 3, 1) := by decide +kernel
theorem dX5_digit_91 : decode cX5_digit 91 = .ok (.getfield 68, 3) := by decide +kernel
theorem dX5_digit_94 : decode cX5_digit 94 = .ok (.ireturn, 1) := by decide +kernel
theorem dX5_digit_95 : decode cX5_digit 95 = .ok (.aload_n 3, 1) := by decide +kernel
theorem dX5_digit_96 : decode cX5_digit 96 = .ok (.getfield 76, 3) := by decide +kernel
theorem dX5_digit_99 : decode cX5_digit 99 = .ok (.ireturn, 1) := by decide +kernel
theorem dX5_digit_100 : decode cX5_digit 100 = .ok (.aload_n 3, 1) := by decide +kernel
theorem dX5_digit_101 : decode cX5_digit 101 = .ok (.getfield 82, 3) := by decide +kernel
theorem dX5_digit_104 : decode cX5_digit 104 = .ok (.ireturn, 1) := by decide +kernel
theorem dX5_digit_105 : decode cX5_digit 105 = .ok (.aload_n 3, 1) := by decide +kernel
theorem dX5_digit_106 : decode cX5_digit 106 = .ok (.invokevirtual 73, 3) := by decide +kernel
theorem dX5_digit_109 : decode cX5_digit 109 = .ok (.ireturn, 1) := by decide +kernel
theorem dX5_digit_110 : decode cX5_digit 110 = .ok (.aload_n 0, 1) := by decide +kernel
theorem dX5_digit_111 : decode cX5_digit 111 = .ok (.getfield 10, 3) := by decide +kernel
theorem dX5_digit_114 : decode cX5_digit 114 = .ok (.iload_n 1, 1) := by decide +kernel
theorem dX5_digit_115 : decode cX5_digit 115 = .ok (.invokevirtual 171, 3) := by decide +kernel
theorem dX5_digit_118 : decode cX5_digit 118 = .ok (.ireturn, 1) := by decide +kernel
theorem dX5_digit_119 : decode cX5_digit 119 = .ok (.aload_n 3, 1) := by decide +kernel
theorem dX5_digit_120 : decode cX5_digit 120 = .ok (.aload_n 0, 1) := by decide +kernel
theorem dX5_digit_121 : decode cX5_digit 121 = .ok (.getfield 10, 3) := by decide +kernel
theorem dX5_digit_124 : decode cX5_digit 124 = .ok (.getfield 102, 3) := by decide +kernel
theorem dX5_digit_127 : decode cX5_digit 127 = .ok (.iconst 1, 1) := by decide +kernel
theorem dX5_digit_128 : decode cX5_digit 128 = .ok (.iaload, 1) := by decide +kernel
theorem dX5_digit_129 : decode cX5_digit 129 = .ok (.invokevirtual 174, 3) := by decide +kernel
theorem dX5_digit_132 : decode cX5_digit 132 = .ok (.ireturn, 1) := by decide +kernel
theorem dX5_digit_133 : decode cX5_digit 133 = .ok (.aload_n 3, 1) := by decide +kernel
theorem dX5_digit_134 : decode cX5_digit 134 = .ok (.getfield 105, 3) := by decide +kernel
theorem dX5_digit_137 : decode cX5_digit 137 = .ok (.ireturn, 1) := by decide +kernel
theorem dX5_digit_138 : decode cX5_digit 138 = .ok (.aload_n 3, 1) := by decide +kernel
theorem dX5_digit_139 : decode cX5_digit 139 = .ok (.invokevirtual 177, 3) := by decide +kernel
theorem dX5_digit_142 : decode cX5_digit 142 = .ok (.ireturn, 1) := by decide +kernel
theorem dX5_digit_143 : decode cX5_digit 143 = .ok (.aload_n 3, 1) := by decide +kernel
theorem dX5_digit_144 : decode cX5_digit 144 = .ok (.getfield 79, 3) := by decide +kernel
theorem dX5_digit_147 : decode cX5_digit 147 = .ok (.sipush (-129), 3) := by decide +kernel
theorem dX5_digit_150 : decode cX5_digit 150 = .ok (.iand, 1) := by decide +kernel
theorem dX5_digit_151 : decode cX5_digit 151 = .ok (.invokestatic 180, 3) := by decide +kernel
theorem dX5_digit_154 : decode cX5_digit 154 = .ok (.ireturn, 1) := by decide +kernel
theorem dX5_digit_155 : decode cX5_digit 155 = .ok (.aload_n 3, 1) := by decide +kernel
theorem dX5_digit_156 : decode cX5_digit 156 = .ok (.getfield 183, 3) := by decide +kernel
theorem dX5_digit_159 : decode cX5_digit 159 = .ok (.ireturn, 1) := by decide +kernel
theorem dX5_digit_160 : decode cX5_digit 160 = .ok (.bipush (-2), 2) := by decide +kernel
theorem dX5_digit_162 : decode cX5_digit 162 = .ok (.ireturn, 1) := by decide +kernel
set_option maxRecDepth 20000 in
theorem ggX5_segment_X3_find : GoodIn wsX5_segment wsX3_find := goodIn_r _ [10, 11, 12, 13, 14, 15, 37, 38, 39, 40, 41, 42, 43, 44, 45, 46, 47, 48, 49] (by decide +kernel) (by decide +kernel)
set_option maxRecDepth 20000 in
theorem gX5_segment_X3_find : GoodIn wsX5_segment (wsV RX5 56 RX3 yX3_find wsX3_find) := goodIn_app (goodIn_of _ (by decide +kernel)) ggX5_segment_X3_find
set_option maxRecDepth 20000 in
theorem ggX5_segment_X5_isWithin : GoodIn wsX5_segment wsX5_isWithin := goodIn_r _ [15] (by decide +kernel) (by decide +kernel)
set_option maxRecDepth 20000 in
theorem gX5_segment_X5_isWithin : GoodIn wsX5_segment (va_wsS RX5 40 yX5_isWithin wsX5_isWithin) := goodIn_app (goodIn_of _ (by decide +kernel)) ggX5_segment_X5_isWithin
set_option maxRecDepth 20000 in
theorem ggX5_segment_X0_seen : GoodIn wsX5_segment wsX0_seen := goodIn_r _ [21, 22, 28, 29, 30, 31, 32, 33, 34, 35, 36] (by decide +kernel) (by decide +kernel)
set_option maxRecDepth 20000 in
theorem gX5_segment_X0_seen : GoodIn wsX5_segment (wsV RX5 174 RX0 yX0_seen wsX0_seen) := goodIn_app (goodIn_of _ (by decide +kernel)) ggX5_segment_X0_seen
theorem dX5_segment_0 : decode cX5_segment 0 = .ok (.aload_n 0, 1) := by decide +kernel
theorem dX5_segment_1 : decode cX5_segment 1 = .ok (.getfield 10, 3) := by decide +kernel
theorem dX5_segment_4 : decode cX5_segment 4 = .ok (.iload_n 1, 1) := by decide +kernel
theorem dX5_segment_5 : decode cX5_segment 5 = .ok (.invokevirtual 56, 3) := by decide +kernel
theorem dX5_segment_8 : decode cX5_segment 8 = .ok (.astore 4, 2) := by decide +kernel
theorem dX5_segment_10 : decode cX5_segment 10 = .ok (.aload 4, 2) := by decide +kernel
theorem dX5_segment_12 : decode cX5_segment 12 = .ok (.ifnull 13, 3) := by decide +kernel
theorem dX5_segment_15 : decode cX5_segment 15 = .ok (.iload_n 2, 1) := by decide +kernel
theorem dX5_segment_16 : decode cX5_segment 16 = .ok (.iconst 0, 1) := by decide +kernel
theorem dX5_segment_17 : decode cX5_segment 17 = .ok (.bipush 7, 2) := by decide +kernel
theorem dX5_segment_19 : decode cX5_segment 19 = .ok (.invokestatic 40, 3) := by decide +kernel
theorem dX5_segment_22 : decode cX5_segment 22 = .ok (.ifCond .ne 5, 3) := by decide +kernel
theorem dX5_segment_25 : decode cX5_segment 25 = .ok (.iconst (-1), 1) := by decide +kernel
theorem dX5_segment_26 : decode cX5_segment 26 = .ok (.ireturn, 1) := by decide +kernel
theorem dX5_segment_27 : decode cX5_segment 27 = .ok (.iload_n 3, 1) := by decide +kernel
theorem dX5_segment_28 : decode cX5_segment 28 = .ok (.tableswitch 77 0 3 #[32, 40, 48, 58], 32) := by decide +kernel
theorem dX5_segment_60 : decode cX5_segment 60 = .ok (.aload 4, 2) := by decide +kernel
theorem dX5_segment_62 : decode cX5_segment 62 = .ok (.getfield 186, 3) := by decide +kernel
theorem dX5_segment_65 : decode cX5_segment 65 = .ok (.iload_n 2, 1) := by decide +kernel
theorem dX5_segment_66 : decode cX5_segment 66 = .ok (.iaload, 1) := by decide +kernel
theorem dX5_segment_67 : decode cX5_segment 67 = .ok (.ireturn, 1) := by decide +kernel
theorem dX5_segment_68 : decode cX5_segment 68 = .ok (.aload 4, 2) := by decide +kernel
theorem dX5_segment_70 : decode cX5_segment 70 = .ok (.getfield 189, 3) := by decide +kernel
theorem dX5_segment_73 : decode cX5_segment 73 = .ok (.iload_n 2, 1) := by decide +kernel
theorem dX5_segment_74 : decode cX5_segment 74 = .ok (.iaload, 1) := by decide +kernel
theorem dX5_segment_75 : decode cX5_segment 75 = .ok (.ireturn, 1) := by decide +kernel
theorem dX5_segment_76 : decode cX5_segment 76 = .ok (.aload 4, 2) := by decide +kernel
theorem dX5_segment_78 : decode cX5_segment 78 = .ok (.getfield 105, 3) := by decide +kernel
theorem dX5_segment_81 : decode cX5_segment 81 = .ok (.iload_n 2, 1) := by decide +kernel
theorem dX5_segment_82 : decode cX5_segment 82 = .ok (.ishr, 1) := by decide +kernel
theorem dX5_segment_83 : decode cX5_segment 83 = .ok (.iconst 1, 1) := by decide +kernel
theorem dX5_segment_84 : decode cX5_segment 84 = .ok (.iand, 1) := by decide +kernel
theorem dX5_segment_85 : decode cX5_segment 85 = .ok (.ireturn, 1) := by decide +kernel
theorem dX5_segment_86 : decode cX5_segment 86 = .ok (.aload 4, 2) := by decide +kernel
theorem dX5_segment_88 : decode cX5_segment 88 = .ok (.aload_n 0, 1) := by decide +kernel
theorem dX5_segment_89 : decode cX5_segment 89 = .ok (.getfield 10, 3) := by decide +kernel
theorem dX5_segment_92 : decode cX5_segment 92 = .ok (.getfield 102, 3) := by decide +kernel
theorem dX5_segment_95 : decode cX5_segment 95 = .ok (.iconst 1, 1) := by decide +kernel
theorem dX5_segment_96 : decode cX5_segment 96 = .ok (.iaload, 1) := by decide +kernel
theorem dX5_segment_97 : decode cX5_segment 97 = .ok (.invokevirtual 174, 3) := by decide +kernel
theorem dX5_segment_100 : decode cX5_segment 100 = .ok (.iload_n 2, 1) := by decide +kernel
theorem dX5_segment_101 : decode cX5_segment 101 = .ok (.ishr, 1) := by decide +kernel
theorem dX5_segment_102 : decode cX5_segment 102 = .ok (.iconst 1, 1) := by decide +kernel
theorem dX5_segment_103 : decode cX5_segment 103 = .ok (.iand, 1) := by decide +kernel
theorem dX5_segment_104 : decode cX5_segment 104 = .ok (.ireturn, 1) := by decide +kernel
theorem dX5_segment_105 : decode cX5_segment 105 = .ok (.bipush (-2), 2) := by decide +kernel
theorem dX5_segment_107 : decode cX5_segment 107 = .ok (.ireturn, 1) := by decide +kernel
set_option maxRecDepth 20000 in
theorem ggX5_litIn_X3_find : GoodIn wsX5_litIn wsX3_find := goodIn_r _ [7, 8, 9, 10, 11, 12, 130, 131, 132, 133, 134, 135, 136, 137, 138, 139, 140, 141, 142] (by decide +kernel) (by decide +kernel)
set_option maxRecDepth 20000 in
theorem gX5_litIn_X3_find : GoodIn wsX5_litIn (wsV RX5 56 RX3 yX3_find wsX3_find) := goodIn_app (goodIn_of _ (by decide +kernel)) ggX5_litIn_X3_find
set_option maxRecDepth 20000 in
theorem ggX5_litIn_X5_isWithin : GoodIn wsX5_litIn wsX5_isWithin := goodIn_r _ [12] (by decide +kernel) (by decide +kernel)
set_option maxRecDepth 20000 in
theorem gX5_litIn_X5_isWithin : GoodIn wsX5_litIn (va_wsS RX5 40 yX5_isWithin wsX5_isWithin) := goodIn_app (goodIn_of _ (by decide +kernel)) ggX5_litIn_X5_isWithin
set_option maxRecDepth 20000 in
theorem ggX5_litIn_X3_copyFrom : GoodIn wsX5_litIn wsX3_copyFrom := goodIn_r _ [17, 9, 8, 18, 19, 20, 21, 22, 23, 24, 25, 26, 27, 28, 29, 30, 31, 32, 33, 34, 35, 36, 37, 38, 39, 40, 41, 42, 43, 44, 45, 46, 47, 130, 131, 132, 133, 134, 135, 136, 137, 138, 139, 140, 141, 142, 143, 144, 145, 146, 147, 148, 149, 150, 151] (by decide +kernel) (by decide +kernel)
set_option maxRecDepth 20000 in
theorem gX5_litIn_X3_copyFrom : GoodIn wsX5_litIn (wsV RX5 161 RX3 yX3_copyFrom wsX3_copyFrom) := goodIn_app (goodIn_of _ (by decide +kernel)) ggX5_litIn_X3_copyFrom
set_option maxRecDepth 20000 in
theorem ggX5_litIn_X3_runTicks : GoodIn wsX5_litIn wsX3_runTicks := goodIn_r _ [51, 52, 53, 54, 6, 55, 9, 56, 29, 8, 24, 25, 27, 57, 58, 59, 60, 61, 62, 63, 64, 65, 28, 66, 67, 68, 69, 70, 71, 72, 73, 74, 75, 76, 36, 77, 38, 39, 78, 79, 80, 81, 82, 83, 84, 85, 18, 23, 26, 86, 87, 88, 89, 45, 47, 44, 90, 11, 91, 92, 93, 94, 95, 96, 97, 98, 99, 100, 101, 102, 103, 104, 105, 106, 107, 108, 109, 110, 111, 30, 112, 113, 31, 32, 114, 115, 116, 117, 118, 119, 120, 121, 122, 130, 131, 132, 133, 134, 135, 136, 137, 138, 139, 140, 141, 142, 143, 144, 145, 146, 147, 148, 149, 150, 151] (by decide +kernel) (by decide +kernel)
set_option maxRecDepth 20000 in
theorem gX5_litIn_X3_runTicks : GoodIn wsX5_litIn (wsV RX5 119 RX3 yX3_runTicks wsX3_runTicks) := goodIn_app (goodIn_of _ (by decide +kernel)) ggX5_litIn_X3_runTicks
set_option maxRecDepth 20000 in
theorem ggX5_litIn_X3_slotNow : GoodIn wsX5_litIn wsX3_slotNow := goodIn_r _ [60, 9, 61, 8, 27, 130, 131, 132, 133, 134, 135, 136, 137, 138, 139, 140, 141, 142, 143, 144, 145, 146, 147, 148, 149, 150, 151] (by decide +kernel) (by decide +kernel)
set_option maxRecDepth 20000 in
theorem gX5_litIn_X3_slotNow : GoodIn wsX5_litIn (wsV RX5 192 RX3 yX3_slotNow wsX3_slotNow) := goodIn_app (goodIn_of _ (by decide +kernel)) ggX5_litIn_X3_slotNow
set_option maxRecDepth 20000 in
theorem ggX5_litIn_X3_litNext : GoodIn wsX5_litIn wsX3_litNext := goodIn_r _ [65, 28, 9, 66, 67, 57, 58, 59, 6, 60, 61, 8, 27, 68, 69, 70, 71, 72, 73, 74, 75, 76, 36, 77, 38, 39, 78, 79, 80, 81, 82, 83, 84, 85, 18, 23, 26, 130, 131, 132, 133, 134, 135, 136, 137, 138, 139, 140, 141, 142, 143, 144, 145, 146, 147, 148, 149, 150, 151] (by decide +kernel) (by decide +kernel)
set_option maxRecDepth 20000 in
theorem gX5_litIn_X3_litNext : GoodIn wsX5_litIn (wsV RX5 195 RX3 yX3_litNext wsX3_litNext) := goodIn_app (goodIn_of _ (by decide +kernel)) ggX5_litIn_X3_litNext
theorem dX5_litIn_0 : decode cX5_litIn 0 = .ok (.aload_n 0, 1) := by decide +kernel
theorem dX5_litIn_1 : decode cX5_litIn 1 = .ok (.getfield 10, 3) := by decide +kernel
theorem dX5_litIn_4 : decode cX5_litIn 4 = .ok (.iload_n 1, 1) := by decide +kernel
theorem dX5_litIn_5 : decode cX5_litIn 5 = .ok (.invokevirtual 56, 3) := by decide +kernel
theorem dX5_litIn_8 : decode cX5_litIn 8 = .ok (.ifnonnull 5, 3) := by decide +kernel
theorem dX5_litIn_11 : decode cX5_litIn 11 = .ok (.iconst (-1), 1) := by decide +kernel
theorem dX5_litIn_12 : decode cX5_litIn 12 = .ok (.ireturn, 1) := by decide +kernel
theorem dX5_litIn_13 : decode cX5_litIn 13 = .ok (.iload_n 2, 1) := by decide +kernel
theorem dX5_litIn_14 : decode cX5_litIn 14 = .ok (.iconst 0, 1) := by decide +kernel
theorem dX5_litIn_15 : decode cX5_litIn 15 = .ok (.sipush 500, 3) := by decide +kernel
theorem dX5_litIn_18 : decode cX5_litIn 18 = .ok (.invokestatic 40, 3) := by decide +kernel
theorem dX5_litIn_21 : decode cX5_litIn 21 = .ok (.ifCond .ne 6, 3) := by decide +kernel
theorem dX5_litIn_24 : decode cX5_litIn 24 = .ok (.bipush (-2), 2) := by decide +kernel
theorem dX5_litIn_26 : decode cX5_litIn 26 = .ok (.ireturn, 1) := by decide +kernel
theorem dX5_litIn_27 : decode cX5_litIn 27 = .ok (.aload_n 0, 1) := by decide +kernel
theorem dX5_litIn_28 : decode cX5_litIn 28 = .ok (.getfield 16, 3) := by decide +kernel
theorem dX5_litIn_31 : decode cX5_litIn 31 = .ok (.aload_n 0, 1) := by decide +kernel
theorem dX5_litIn_32 : decode cX5_litIn 32 = .ok (.getfield 10, 3) := by decide +kernel
theorem dX5_litIn_35 : decode cX5_litIn 35 = .ok (.invokevirtual 161, 3) := by decide +kernel
theorem dX5_litIn_38 : decode cX5_litIn 38 = .ok (.aload_n 0, 1) := by decide +kernel
theorem dX5_litIn_39 : decode cX5_litIn 39 = .ok (.getfield 16, 3) := by decide +kernel
theorem dX5_litIn_42 : decode cX5_litIn 42 = .ok (.iload_n 2, 1) := by decide +kernel
theorem dX5_litIn_43 : decode cX5_litIn 43 = .ok (.invokevirtual 119, 3) := by decide +kernel
theorem dX5_litIn_46 : decode cX5_litIn 46 = .ok (.pop, 1) := by decide +kernel
theorem dX5_litIn_47 : decode cX5_litIn 47 = .ok (.aload_n 0, 1) := by decide +kernel
theorem dX5_litIn_48 : decode cX5_litIn 48 = .ok (.getfield 16, 3) := by decide +kernel
theorem dX5_litIn_51 : decode cX5_litIn 51 = .ok (.invokevirtual 192, 3) := by decide +kernel
theorem dX5_litIn_54 : decode cX5_litIn 54 = .ok (.iload_n 1, 1) := by decide +kernel
theorem dX5_litIn_55 : decode cX5_litIn 55 = .ok (.if_icmp .ne 13, 3) := by decide +kernel
theorem dX5_litIn_58 : decode cX5_litIn 58 = .ok (.aload_n 0, 1) := by decide +kernel
theorem dX5_litIn_59 : decode cX5_litIn 59 = .ok (.getfield 16, 3) := by decide +kernel
theorem dX5_litIn_62 : decode cX5_litIn 62 = .ok (.invokevirtual 195, 3) := by decide +kernel
theorem dX5_litIn_65 : decode cX5_litIn 65 = .ok (.goto 4, 3) := by decide +kernel
theorem dX5_litIn_68 : decode cX5_litIn 68 = .ok (.iconst 0, 1) := by decide +kernel
theorem dX5_litIn_69 : decode cX5_litIn 69 = .ok (.ireturn, 1) := by decide +kernel
set_option maxRecDepth 20000 in
theorem ggX5_steadyGlow_X3_find : GoodIn wsX5_steadyGlow wsX3_find := goodIn_r _ [7, 8, 9, 10, 11, 12, 55, 56, 57, 58, 59, 60, 61, 62, 63, 64, 65, 66, 67] (by decide +kernel) (by decide +kernel)
set_option maxRecDepth 20000 in
theorem gX5_steadyGlow_X3_find : GoodIn wsX5_steadyGlow (wsV RX5 56 RX3 yX3_find wsX3_find) := goodIn_app (goodIn_of _ (by decide +kernel)) ggX5_steadyGlow_X3_find
set_option maxRecDepth 20000 in
theorem ggX5_steadyGlow_X0_litPart : GoodIn wsX5_steadyGlow wsX0_litPart := goodIn_r _ [17, 18, 19, 20, 21, 16, 22, 23, 24, 68, 69, 70, 71, 72, 73, 74, 75, 76] (by decide +kernel) (by decide +kernel)
set_option maxRecDepth 20000 in
theorem gX5_steadyGlow_X0_litPart : GoodIn wsX5_steadyGlow (wsV RX5 73 RX0 yX0_litPart wsX0_litPart) := goodIn_app (goodIn_of _ (by decide +kernel)) ggX5_steadyGlow_X0_litPart
set_option maxRecDepth 20000 in
theorem ggX5_steadyGlow_X3_frameLength : GoodIn wsX5_steadyGlow wsX3_frameLength := goodIn_r _ [28, 8, 29, 30, 31, 6, 32, 9, 33, 55, 56, 57, 58, 59, 60, 61, 62, 63, 64, 65, 66, 67, 68, 69, 70, 71, 72, 73, 74, 75, 76] (by decide +kernel) (by decide +kernel)
set_option maxRecDepth 20000 in
theorem gX5_steadyGlow_X3_frameLength : GoodIn wsX5_steadyGlow (wsV RX5 64 RX3 yX3_frameLength wsX3_frameLength) := goodIn_app (goodIn_of _ (by decide +kernel)) ggX5_steadyGlow_X3_frameLength
set_option maxRecDepth 20000 in
theorem ggX5_steadyGlow_X5_glowOfFrames : GoodIn wsX5_steadyGlow wsX5_glowOfFrames := goodIn_r _ [36, 37, 38, 11, 39, 40, 41, 42, 43, 44, 45, 46, 47, 48, 49] (by decide +kernel) (by decide +kernel)
set_option maxRecDepth 20000 in
theorem gX5_steadyGlow_X5_glowOfFrames : GoodIn wsX5_steadyGlow (va_wsS RX5 198 yX5_glowOfFrames wsX5_glowOfFrames) := goodIn_app (goodIn_of _ (by decide +kernel)) ggX5_steadyGlow_X5_glowOfFrames
theorem dX5_steadyGlow_0 : decode cX5_steadyGlow 0 = .ok (.aload_n 0, 1) := by decide +kernel
theorem dX5_steadyGlow_1 : decode cX5_steadyGlow 1 = .ok (.getfield 10, 3) := by decide +kernel
theorem dX5_steadyGlow_4 : decode cX5_steadyGlow 4 = .ok (.iload_n 1, 1) := by decide +kernel
theorem dX5_steadyGlow_5 : decode cX5_steadyGlow 5 = .ok (.invokevirtual 56, 3) := by decide +kernel
theorem dX5_steadyGlow_8 : decode cX5_steadyGlow 8 = .ok (.astore_n 2, 1) := by decide +kernel
theorem dX5_steadyGlow_9 : decode cX5_steadyGlow 9 = .ok (.aload_n 2, 1) := by decide +kernel
theorem dX5_steadyGlow_10 : decode cX5_steadyGlow 10 = .ok (.ifnonnull 5, 3) := by decide +kernel
theorem dX5_steadyGlow_13 : decode cX5_steadyGlow 13 = .ok (.iconst (-1), 1) := by decide +kernel
theorem dX5_steadyGlow_14 : decode cX5_steadyGlow 14 = .ok (.ireturn, 1) := by decide +kernel
theorem dX5_steadyGlow_15 : decode cX5_steadyGlow 15 = .ok (.aload_n 2, 1) := by decide +kernel
theorem dX5_steadyGlow_16 : decode cX5_steadyGlow 16 = .ok (.invokevirtual 73, 3) := by decide +kernel
theorem dX5_steadyGlow_19 : decode cX5_steadyGlow 19 = .ok (.istore_n 3, 1) := by decide +kernel
theorem dX5_steadyGlow_20 : decode cX5_steadyGlow 20 = .ok (.iload_n 3, 1) := by decide +kernel
theorem dX5_steadyGlow_21 : decode cX5_steadyGlow 21 = .ok (.ifCond .ne 5, 3) := by decide +kernel
theorem dX5_steadyGlow_24 : decode cX5_steadyGlow 24 = .ok (.iconst 0, 1) := by decide +kernel
theorem dX5_steadyGlow_25 : decode cX5_steadyGlow 25 = .ok (.ireturn, 1) := by decide +kernel
theorem dX5_steadyGlow_26 : decode cX5_steadyGlow 26 = .ok (.iload_n 3, 1) := by decide +kernel
theorem dX5_steadyGlow_27 : decode cX5_steadyGlow 27 = .ok (.aload_n 0, 1) := by decide +kernel
theorem dX5_steadyGlow_28 : decode cX5_steadyGlow 28 = .ok (.getfield 10, 3) := by decide +kernel
theorem dX5_steadyGlow_31 : decode cX5_steadyGlow 31 = .ok (.invokevirtual 64, 3) := by decide +kernel
theorem dX5_steadyGlow_34 : decode cX5_steadyGlow 34 = .ok (.iload_n 3, 1) := by decide +kernel
theorem dX5_steadyGlow_35 : decode cX5_steadyGlow 35 = .ok (.isub, 1) := by decide +kernel
theorem dX5_steadyGlow_36 : decode cX5_steadyGlow 36 = .ok (.aload_n 0, 1) := by decide +kernel
theorem dX5_steadyGlow_37 : decode cX5_steadyGlow 37 = .ok (.getfield 10, 3) := by decide +kernel
theorem dX5_steadyGlow_40 : decode cX5_steadyGlow 40 = .ok (.getfield 102, 3) := by decide +kernel
theorem dX5_steadyGlow_43 : decode cX5_steadyGlow 43 = .ok (.iconst 0, 1) := by decide +kernel
theorem dX5_steadyGlow_44 : decode cX5_steadyGlow 44 = .ok (.iaload, 1) := by decide +kernel
theorem dX5_steadyGlow_45 : decode cX5_steadyGlow 45 = .ok (.invokestatic 198, 3) := by decide +kernel
theorem dX5_steadyGlow_48 : decode cX5_steadyGlow 48 = .ok (.ireturn, 1) := by decide +kernel
theorem dX5_current_0 : decode cX5_current 0 = .ok (.iload_n 1, 1) := by decide +kernel
theorem dX5_current_1 : decode cX5_current 1 = .ok (.tableswitch 51 0 2 #[27, 35, 43], 27) := by decide +kernel
theorem dX5_current_28 : decode cX5_current 28 = .ok (.aload_n 0, 1) := by decide +kernel
theorem dX5_current_29 : decode cX5_current 29 = .ok (.getfield 10, 3) := by decide +kernel
theorem dX5_current_32 : decode cX5_current 32 = .ok (.getfield 202, 3) := by decide +kernel
theorem dX5_current_35 : decode cX5_current 35 = .ok (.freturn, 1) := by decide +kernel
theorem dX5_current_36 : decode cX5_current 36 = .ok (.aload_n 0, 1) := by decide +kernel
theorem dX5_current_37 : decode cX5_current 37 = .ok (.getfield 10, 3) := by decide +kernel
theorem dX5_current_40 : decode cX5_current 40 = .ok (.getfield 206, 3) := by decide +kernel
theorem dX5_current_43 : decode cX5_current 43 = .ok (.freturn, 1) := by decide +kernel
theorem dX5_current_44 : decode cX5_current 44 = .ok (.aload_n 0, 1) := by decide +kernel
theorem dX5_current_45 : decode cX5_current 45 = .ok (.getfield 10, 3) := by decide +kernel
theorem dX5_current_48 : decode cX5_current 48 = .ok (.getfield 209, 3) := by decide +kernel
theorem dX5_current_51 : decode cX5_current 51 = .ok (.freturn, 1) := by decide +kernel
theorem dX5_current_52 : decode cX5_current 52 = .ok (.fconst 0, 1) := by decide +kernel
theorem dX5_current_53 : decode cX5_current 53 = .ok (.freturn, 1) := by decide +kernel
set_option maxRecDepth 20000 in
theorem ggX5_thousandths_X5_isWithin : GoodIn wsX5_thousandths wsX5_isWithin := goodIn_r _ [5] (by decide +kernel) (by decide +kernel)
set_option maxRecDepth 20000 in
theorem gX5_thousandths_X5_isWithin : GoodIn wsX5_thousandths (va_wsS RX5 40 yX5_isWithin wsX5_isWithin) := goodIn_app (goodIn_of _ (by decide +kernel)) ggX5_thousandths_X5_isWithin
set_option maxRecDepth 20000 in
theorem ggX5_thousandths_X5_current : GoodIn wsX5_thousandths wsX5_current := goodIn_r _ [9, 10, 11, 12, 13, 14, 15, 16, 17, 18, 19, 20, 21, 22, 23, 24, 25, 26, 27, 28, 29, 30, 31] (by decide +kernel) (by decide +kernel)
set_option maxRecDepth 20000 in
theorem gX5_thousandths_X5_current : GoodIn wsX5_thousandths (wsV RX5 212 RX5 yX5_current wsX5_current) := goodIn_app (goodIn_of _ (by decide +kernel)) ggX5_thousandths_X5_current
theorem dX5_thousandths_0 : decode cX5_thousandths 0 = .ok (.iload_n 1, 1) := by decide +kernel
theorem dX5_thousandths_1 : decode cX5_thousandths 1 = .ok (.iconst 0, 1) := by decide +kernel
theorem dX5_thousandths_2 : decode cX5_thousandths 2 = .ok (.iconst 2, 1) := by decide +kernel
theorem dX5_thousandths_3 : decode cX5_thousandths 3 = .ok (.invokestatic 40, 3) := by decide +kernel
theorem dX5_thousandths_6 : decode cX5_thousandths 6 = .ok (.ifCond .ne 6, 3) := by decide +kernel
theorem dX5_thousandths_9 : decode cX5_thousandths 9 = .ok (.bipush (-2), 2) := by decide +kernel
theorem dX5_thousandths_11 : decode cX5_thousandths 11 = .ok (.ireturn, 1) := by decide +kernel
theorem dX5_thousandths_12 : decode cX5_thousandths 12 = .ok (.aload_n 0, 1) := by decide +kernel
theorem dX5_thousandths_13 : decode cX5_thousandths 13 = .ok (.iload_n 1, 1) := by decide +kernel
theorem dX5_thousandths_14 : decode cX5_thousandths 14 = .ok (.invokevirtual 212, 3) := by decide +kernel
theorem dX5_thousandths_17 : decode cX5_thousandths 17 = .ok (.ldc 215, 2) := by decide +kernel
theorem dX5_thousandths_19 : decode cX5_thousandths 19 = .ok (.fmul, 1) := by decide +kernel
theorem dX5_thousandths_20 : decode cX5_thousandths 20 = .ok (.f2i, 1) := by decide +kernel
theorem dX5_thousandths_21 : decode cX5_thousandths 21 = .ok (.ireturn, 1) := by decide +kernel
set_option maxRecDepth 20000 in
theorem ggX5_duty_X3_find : GoodIn wsX5_duty wsX3_find := goodIn_r _ [8, 9, 10, 11, 12, 13, 19, 20, 21, 22, 23, 24, 25, 26, 27, 28, 29, 30, 31] (by decide +kernel) (by decide +kernel)
set_option maxRecDepth 20000 in
theorem gX5_duty_X3_find : GoodIn wsX5_duty (wsV RX5 56 RX3 yX3_find wsX3_find) := goodIn_app (goodIn_of _ (by decide +kernel)) ggX5_duty_X3_find
theorem dX5_duty_0 : decode cX5_duty 0 = .ok (.aload_n 0, 1) := by decide +kernel
theorem dX5_duty_1 : decode cX5_duty 1 = .ok (.getfield 10, 3) := by decide +kernel
theorem dX5_duty_4 : decode cX5_duty 4 = .ok (.iload_n 1, 1) := by decide +kernel
theorem dX5_duty_5 : decode cX5_duty 5 = .ok (.invokevirtual 56, 3) := by decide +kernel
theorem dX5_duty_8 : decode cX5_duty 8 = .ok (.astore_n 2, 1) := by decide +kernel
theorem dX5_duty_9 : decode cX5_duty 9 = .ok (.aload_n 2, 1) := by decide +kernel
theorem dX5_duty_10 : decode cX5_duty 10 = .ok (.ifnull 13, 3) := by decide +kernel
theorem dX5_duty_13 : decode cX5_duty 13 = .ok (.aload_n 0, 1) := by decide +kernel
theorem dX5_duty_14 : decode cX5_duty 14 = .ok (.getfield 10, 3) := by decide +kernel
theorem dX5_duty_17 : decode cX5_duty 17 = .ok (.getfield 125, 3) := by decide +kernel
theorem dX5_duty_20 : decode cX5_duty 20 = .ok (.ifCond .ne 5, 3) := by decide +kernel
theorem dX5_duty_23 : decode cX5_duty 23 = .ok (.fconst 0, 1) := by decide +kernel
theorem dX5_duty_24 : decode cX5_duty 24 = .ok (.freturn, 1) := by decide +kernel
theorem dX5_duty_25 : decode cX5_duty 25 = .ok (.aload_n 2, 1) := by decide +kernel
theorem dX5_duty_26 : decode cX5_duty 26 = .ok (.getfield 183, 3) := by decide +kernel
theorem dX5_duty_29 : decode cX5_duty 29 = .ok (.i2f, 1) := by decide +kernel
theorem dX5_duty_30 : decode cX5_duty 30 = .ok (.aload_n 0, 1) := by decide +kernel
theorem dX5_duty_31 : decode cX5_duty 31 = .ok (.getfield 10, 3) := by decide +kernel
theorem dX5_duty_34 : decode cX5_duty 34 = .ok (.getfield 125, 3) := by decide +kernel
theorem dX5_duty_37 : decode cX5_duty 37 = .ok (.i2f, 1) := by decide +kernel
theorem dX5_duty_38 : decode cX5_duty 38 = .ok (.fdiv, 1) := by decide +kernel
theorem dX5_duty_39 : decode cX5_duty 39 = .ok (.freturn, 1) := by decide +kernel
set_option maxRecDepth 20000 in
theorem ggX5_count_X3_frameLength : GoodIn wsX5_count wsX3_frameLength := goodIn_r _ [17, 18, 19, 20, 21, 16, 22, 23, 24, 47, 48, 49, 50, 51, 52, 53, 54, 55, 56, 57, 58, 59, 67, 68, 69, 70, 71, 72, 73, 74, 75] (by decide +kernel) (by decide +kernel)
set_option maxRecDepth 20000 in
theorem gX5_count_X3_frameLength : GoodIn wsX5_count (wsV RX5 64 RX3 yX3_frameLength wsX3_frameLength) := goodIn_app (goodIn_of _ (by decide +kernel)) ggX5_count_X3_frameLength
set_option maxRecDepth 20000 in
theorem ggX5_count_X3_slotNow : GoodIn wsX5_count wsX3_slotNow := goodIn_r _ [28, 23, 24, 18, 29, 47, 48, 49, 50, 51, 52, 53, 54, 55, 56, 57, 58, 59, 67, 68, 69, 70, 71, 72, 73, 74, 75] (by decide +kernel) (by decide +kernel)
set_option maxRecDepth 20000 in
theorem gX5_count_X3_slotNow : GoodIn wsX5_count (wsV RX5 192 RX3 yX3_slotNow wsX3_slotNow) := goodIn_app (goodIn_of _ (by decide +kernel)) ggX5_count_X3_slotNow
set_option maxRecDepth 20000 in
theorem ggX5_count_X3_brokenSegments : GoodIn wsX5_count wsX3_brokenSegments := goodIn_r _ [33, 18, 23, 34, 35, 36, 37, 38, 39, 40, 41, 47, 48, 49, 50, 51, 52, 53, 54, 55, 56, 57, 58, 59, 67, 68, 69, 70, 71, 72, 73, 74, 75] (by decide +kernel) (by decide +kernel)
set_option maxRecDepth 20000 in
theorem gX5_count_X3_brokenSegments : GoodIn wsX5_count (wsV RX5 220 RX3 yX3_brokenSegments wsX3_brokenSegments) := goodIn_app (goodIn_of _ (by decide +kernel)) ggX5_count_X3_brokenSegments
theorem dX5_count_0 : decode cX5_count 0 = .ok (.iload_n 1, 1) := by decide +kernel
theorem dX5_count_1 : decode cX5_count 1 = .ok (.tableswitch 172 0 13 #[71, 79, 87, 95, 103, 111, 119, 127, 135, 143, 143, 143, 156, 164], 71) := by decide +kernel
theorem dX5_count_72 : decode cX5_count 72 = .ok (.aload_n 0, 1) := by decide +kernel
theorem dX5_count_73 : decode cX5_count 73 = .ok (.getfield 10, 3) := by decide +kernel
theorem dX5_count_76 : decode cX5_count 76 = .ok (.getfield 125, 3) := by decide +kernel
theorem dX5_count_79 : decode cX5_count 79 = .ok (.ireturn, 1) := by decide +kernel
theorem dX5_count_80 : decode cX5_count 80 = .ok (.aload_n 0, 1) := by decide +kernel
theorem dX5_count_81 : decode cX5_count 81 = .ok (.getfield 10, 3) := by decide +kernel
theorem dX5_count_84 : decode cX5_count 84 = .ok (.getfield 48, 3) := by decide +kernel
theorem dX5_count_87 : decode cX5_count 87 = .ok (.ireturn, 1) := by decide +kernel
theorem dX5_count_88 : decode cX5_count 88 = .ok (.aload_n 0, 1) := by decide +kernel
theorem dX5_count_89 : decode cX5_count 89 = .ok (.getfield 10, 3) := by decide +kernel
theorem dX5_count_92 : decode cX5_count 92 = .ok (.invokevirtual 64, 3) := by decide +kernel
theorem dX5_count_95 : decode cX5_count 95 = .ok (.ireturn, 1) := by decide +kernel
theorem dX5_count_96 : decode cX5_count 96 = .ok (.aload_n 0, 1) := by decide +kernel
theorem dX5_count_97 : decode cX5_count 97 = .ok (.getfield 10, 3) := by decide +kernel
theorem dX5_count_100 : decode cX5_count 100 = .ok (.getfield 216, 3) := by decide +kernel
theorem dX5_count_103 : decode cX5_count 103 = .ok (.ireturn, 1) := by decide +kernel
theorem dX5_count_104 : decode cX5_count 104 = .ok (.aload_n 0, 1) := by decide +kernel
theorem dX5_count_105 : decode cX5_count 105 = .ok (.getfield 10, 3) := by decide +kernel
theorem dX5_count_108 : decode cX5_count 108 = .ok (.getfield 122, 3) := by decide +kernel
theorem dX5_count_111 : decode cX5_count 111 = .ok (.ireturn, 1) := by decide +kernel
theorem dX5_count_112 : decode cX5_count 112 = .ok (.aload_n 0, 1) := by decide +kernel
theorem dX5_count_113 : decode cX5_count 113 = .ok (.getfield 10, 3) := by decide +kernel
theorem dX5_count_116 : decode cX5_count 116 = .ok (.invokevirtual 192, 3) := by decide +kernel
theorem dX5_count_119 : decode cX5_count 119 = .ok (.ireturn, 1) := by decide +kernel
theorem dX5_count_120 : decode cX5_count 120 = .ok (.aload_n 0, 1) := by decide +kernel
theorem dX5_count_121 : decode cX5_count 121 = .ok (.getfield 10, 3) := by decide +kernel
theorem dX5_count_124 : decode cX5_count 124 = .ok (.getfield 116, 3) := by decide +kernel
theorem dX5_count_127 : decode cX5_count 127 = .ok (.ireturn, 1) := by decide +kernel
theorem dX5_count_128 : decode cX5_count 128 = .ok (.aload_n 0, 1) := by decide +kernel
theorem dX5_count_129 : decode cX5_count 129 = .ok (.getfield 10, 3) := by decide +kernel
theorem dX5_count_132 : decode cX5_count 132 = .ok (.getfield 219, 3) := by decide +kernel
theorem dX5_count_135 : decode cX5_count 135 = .ok (.ireturn, 1) := by decide +kernel
theorem dX5_count_136 : decode cX5_count 136 = .ok (.aload_n 0, 1) := by decide +kernel
theorem dX5_count_137 : decode cX5_count 137 = .ok (.getfield 10, 3) := by decide +kernel
theorem dX5_count_140 : decode cX5_count 140 = .ok (.invokevirtual 220, 3) := by decide +kernel
theorem dX5_count_143 : decode cX5_count 143 = .ok (.ireturn, 1) := by decide +kernel
theorem dX5_count_144 : decode cX5_count 144 = .ok (.aload_n 0, 1) := by decide +kernel
theorem dX5_count_145 : decode cX5_count 145 = .ok (.getfield 10, 3) := by decide +kernel
theorem dX5_count_148 : decode cX5_count 148 = .ok (.getfield 102, 3) := by decide +kernel
theorem dX5_count_151 : decode cX5_count 151 = .ok (.iload_n 1, 1) := by decide +kernel
theorem dX5_count_152 : decode cX5_count 152 = .ok (.bipush 9, 2) := by decide +kernel
theorem dX5_count_154 : decode cX5_count 154 = .ok (.isub, 1) := by decide +kernel
theorem dX5_count_155 : decode cX5_count 155 = .ok (.iaload, 1) := by decide +kernel
theorem dX5_count_156 : decode cX5_count 156 = .ok (.ireturn, 1) := by decide +kernel
theorem dX5_count_157 : decode cX5_count 157 = .ok (.aload_n 0, 1) := by decide +kernel
theorem dX5_count_158 : decode cX5_count 158 = .ok (.getfield 22, 3) := by decide +kernel
theorem dX5_count_161 : decode cX5_count 161 = .ok (.getfield 152, 3) := by decide +kernel
theorem dX5_count_164 : decode cX5_count 164 = .ok (.ireturn, 1) := by decide +kernel
theorem dX5_count_165 : decode cX5_count 165 = .ok (.aload_n 0, 1) := by decide +kernel
theorem dX5_count_166 : decode cX5_count 166 = .ok (.getfield 35, 3) := by decide +kernel
theorem dX5_count_169 : decode cX5_count 169 = .ok (.getfield 136, 3) := by decide +kernel
theorem dX5_count_172 : decode cX5_count 172 = .ok (.ireturn, 1) := by decide +kernel
theorem dX5_count_173 : decode cX5_count 173 = .ok (.bipush (-2), 2) := by decide +kernel
theorem dX5_count_175 : decode cX5_count 175 = .ok (.ireturn, 1) := by decide +kernel
set_option maxRecDepth 20000 in
theorem ggX5_group_X5_isWithin : GoodIn wsX5_group wsX5_isWithin := goodIn_r _ [7] (by decide +kernel) (by decide +kernel)
set_option maxRecDepth 20000 in
theorem gX5_group_X5_isWithin : GoodIn wsX5_group (va_wsS RX5 40 yX5_isWithin wsX5_isWithin) := goodIn_app (goodIn_of _ (by decide +kernel)) ggX5_group_X5_isWithin
set_option maxRecDepth 20000 in
theorem ggX5_group_X3_isGroupOn : GoodIn wsX5_group wsX3_isGroupOn := goodIn_r _ [12, 13, 14, 15, 28, 29, 30, 31, 32, 33, 34, 35, 36, 37, 38, 39, 40] (by decide +kernel) (by decide +kernel)
set_option maxRecDepth 20000 in
theorem gX5_group_X3_isGroupOn : GoodIn wsX5_group (wsV RX5 223 RX3 yX3_isGroupOn wsX3_isGroupOn) := goodIn_app (goodIn_of _ (by decide +kernel)) ggX5_group_X3_isGroupOn
set_option maxRecDepth 20000 in
theorem ggX5_group_X3_digitsInGroup : GoodIn wsX5_group wsX3_digitsInGroup := goodIn_r _ [19, 20, 21, 22, 28, 29, 30, 31, 32, 33, 34, 35, 36, 37, 38, 39, 40, 41, 42, 43, 44, 45, 46, 47, 48, 49] (by decide +kernel) (by decide +kernel)
set_option maxRecDepth 20000 in
theorem gX5_group_X3_digitsInGroup : GoodIn wsX5_group (wsV RX5 92 RX3 yX3_digitsInGroup wsX3_digitsInGroup) := goodIn_app (goodIn_of _ (by decide +kernel)) ggX5_group_X3_digitsInGroup
theorem dX5_group_0 : decode cX5_group 0 = .ok (.iload_n 1, 1) := by decide +kernel
theorem dX5_group_1 : decode cX5_group 1 = .ok (.iconst 0, 1) := by decide +kernel
theorem dX5_group_2 : decode cX5_group 2 = .ok (.iconst 3, 1) := by decide +kernel
theorem dX5_group_3 : decode cX5_group 3 = .ok (.invokestatic 40, 3) := by decide +kernel
theorem dX5_group_6 : decode cX5_group 6 = .ok (.ifCond .ne 5, 3) := by decide +kernel
theorem dX5_group_9 : decode cX5_group 9 = .ok (.iconst (-1), 1) := by decide +kernel
theorem dX5_group_10 : decode cX5_group 10 = .ok (.ireturn, 1) := by decide +kernel
theorem dX5_group_11 : decode cX5_group 11 = .ok (.iload_n 2, 1) := by decide +kernel
theorem dX5_group_12 : decode cX5_group 12 = .ok (.tableswitch 78 0 3 #[32, 42, 52, 69], 32) := by decide +kernel
theorem dX5_group_44 : decode cX5_group 44 = .ok (.aload_n 0, 1) := by decide +kernel
theorem dX5_group_45 : decode cX5_group 45 = .ok (.getfield 10, 3) := by decide +kernel
theorem dX5_group_48 : decode cX5_group 48 = .ok (.getfield 85, 3) := by decide +kernel
theorem dX5_group_51 : decode cX5_group 51 = .ok (.iload_n 1, 1) := by decide +kernel
theorem dX5_group_52 : decode cX5_group 52 = .ok (.iaload, 1) := by decide +kernel
theorem dX5_group_53 : decode cX5_group 53 = .ok (.ireturn, 1) := by decide +kernel
theorem dX5_group_54 : decode cX5_group 54 = .ok (.aload_n 0, 1) := by decide +kernel
theorem dX5_group_55 : decode cX5_group 55 = .ok (.getfield 10, 3) := by decide +kernel
theorem dX5_group_58 : decode cX5_group 58 = .ok (.getfield 89, 3) := by decide +kernel
theorem dX5_group_61 : decode cX5_group 61 = .ok (.iload_n 1, 1) := by decide +kernel
theorem dX5_group_62 : decode cX5_group 62 = .ok (.iaload, 1) := by decide +kernel
theorem dX5_group_63 : decode cX5_group 63 = .ok (.ireturn, 1) := by decide +kernel
theorem dX5_group_64 : decode cX5_group 64 = .ok (.aload_n 0, 1) := by decide +kernel
theorem dX5_group_65 : decode cX5_group 65 = .ok (.getfield 10, 3) := by decide +kernel
theorem dX5_group_68 : decode cX5_group 68 = .ok (.iload_n 1, 1) := by decide +kernel
theorem dX5_group_69 : decode cX5_group 69 = .ok (.invokevirtual 223, 3) := by decide +kernel
theorem dX5_group_72 : decode cX5_group 72 = .ok (.ifCond .eq 7, 3) := by decide +kernel
theorem dX5_group_75 : decode cX5_group 75 = .ok (.iconst 1, 1) := by decide +kernel
theorem dX5_group_76 : decode cX5_group 76 = .ok (.goto 4, 3) := by decide +kernel
theorem dX5_group_79 : decode cX5_group 79 = .ok (.iconst 0, 1) := by decide +kernel
theorem dX5_group_80 : decode cX5_group 80 = .ok (.ireturn, 1) := by decide +kernel
theorem dX5_group_81 : decode cX5_group 81 = .ok (.aload_n 0, 1) := by decide +kernel
theorem dX5_group_82 : decode cX5_group 82 = .ok (.getfield 10, 3) := by decide +kernel
theorem dX5_group_85 : decode cX5_group 85 = .ok (.iload_n 1, 1) := by decide +kernel
theorem dX5_group_86 : decode cX5_group 86 = .ok (.invokevirtual 92, 3) := by decide +kernel
theorem dX5_group_89 : decode cX5_group 89 = .ok (.ireturn, 1) := by decide +kernel
theorem dX5_group_90 : decode cX5_group 90 = .ok (.bipush (-2), 2) := by decide +kernel
theorem dX5_group_92 : decode cX5_group 92 = .ok (.ireturn, 1) := by decide +kernel
theorem dX5_isWithin_0 : decode cX5_isWithin 0 = .ok (.iload_n 0, 1) := by decide +kernel
theorem dX5_isWithin_1 : decode cX5_isWithin 1 = .ok (.iload_n 1, 1) := by decide +kernel
theorem dX5_isWithin_2 : decode cX5_isWithin 2 = .ok (.if_icmp .lt 12, 3) := by decide +kernel
theorem dX5_isWithin_5 : decode cX5_isWithin 5 = .ok (.iload_n 0, 1) := by decide +kernel
theorem dX5_isWithin_6 : decode cX5_isWithin 6 = .ok (.iload_n 2, 1) := by decide +kernel
theorem dX5_isWithin_7 : decode cX5_isWithin 7 = .ok (.if_icmp .gt 7, 3) := by decide +kernel
theorem dX5_isWithin_10 : decode cX5_isWithin 10 = .ok (.iconst 1, 1) := by decide +kernel
theorem dX5_isWithin_11 : decode cX5_isWithin 11 = .ok (.goto 4, 3) := by decide +kernel
theorem dX5_isWithin_14 : decode cX5_isWithin 14 = .ok (.iconst 0, 1) := by decide +kernel
theorem dX5_isWithin_15 : decode cX5_isWithin 15 = .ok (.ireturn, 1) := by decide +kernel
theorem dX5_characterOf_0 : decode cX5_characterOf 0 = .ok (.iconst 0, 1) := by decide +kernel
theorem dX5_characterOf_1 : decode cX5_characterOf 1 = .ok (.istore_n 1, 1) := by decide +kernel
theorem dX5_characterOf_2 : decode cX5_characterOf 2 = .ok (.iload_n 1, 1) := by decide +kernel
theorem dX5_characterOf_3 : decode cX5_characterOf 3 = .ok (.getstatic 227, 3) := by decide +kernel
theorem dX5_characterOf_6 : decode cX5_characterOf 6 = .ok (.arraylength, 1) := by decide +kernel
theorem dX5_characterOf_7 : decode cX5_characterOf 7 = .ok (.if_icmp .ge 32, 3) := by decide +kernel
theorem dX5_characterOf_10 : decode cX5_characterOf 10 = .ok (.iload_n 1, 1) := by decide +kernel
theorem dX5_characterOf_11 : decode cX5_characterOf 11 = .ok (.getstatic 230, 3) := by decide +kernel
theorem dX5_characterOf_14 : decode cX5_characterOf 14 = .ok (.arraylength, 1) := by decide +kernel
theorem dX5_characterOf_15 : decode cX5_characterOf 15 = .ok (.if_icmp .ge 24, 3) := by decide +kernel
theorem dX5_characterOf_18 : decode cX5_characterOf 18 = .ok (.getstatic 227, 3) := by decide +kernel
theorem dX5_characterOf_21 : decode cX5_characterOf 21 = .ok (.iload_n 1, 1) := by decide +kernel
theorem dX5_characterOf_22 : decode cX5_characterOf 22 = .ok (.iaload, 1) := by decide +kernel
theorem dX5_characterOf_23 : decode cX5_characterOf 23 = .ok (.iload_n 0, 1) := by decide +kernel
theorem dX5_characterOf_24 : decode cX5_characterOf 24 = .ok (.if_icmp .ne 9, 3) := by decide +kernel
theorem dX5_characterOf_27 : decode cX5_characterOf 27 = .ok (.getstatic 230, 3) := by decide +kernel
theorem dX5_characterOf_30 : decode cX5_characterOf 30 = .ok (.iload_n 1, 1) := by decide +kernel
theorem dX5_characterOf_31 : decode cX5_characterOf 31 = .ok (.caload, 1) := by decide +kernel
theorem dX5_characterOf_32 : decode cX5_characterOf 32 = .ok (.ireturn, 1) := by decide +kernel
theorem dX5_characterOf_33 : decode cX5_characterOf 33 = .ok (.iinc 1 1, 3) := by decide +kernel
theorem dX5_characterOf_36 : decode cX5_characterOf 36 = .ok (.goto (-34), 3) := by decide +kernel
theorem dX5_characterOf_39 : decode cX5_characterOf 39 = .ok (.bipush (-4), 2) := by decide +kernel
theorem dX5_characterOf_41 : decode cX5_characterOf 41 = .ok (.ireturn, 1) := by decide +kernel
theorem dX5_patternOf_0 : decode cX5_patternOf 0 = .ok (.iconst 0, 1) := by decide +kernel
theorem dX5_patternOf_1 : decode cX5_patternOf 1 = .ok (.istore_n 1, 1) := by decide +kernel
theorem dX5_patternOf_2 : decode cX5_patternOf 2 = .ok (.iload_n 1, 1) := by decide +kernel
theorem dX5_patternOf_3 : decode cX5_patternOf 3 = .ok (.getstatic 230, 3) := by decide +kernel
theorem dX5_patternOf_6 : decode cX5_patternOf 6 = .ok (.arraylength, 1) := by decide +kernel
theorem dX5_patternOf_7 : decode cX5_patternOf 7 = .ok (.if_icmp .ge 32, 3) := by decide +kernel
theorem dX5_patternOf_10 : decode cX5_patternOf 10 = .ok (.iload_n 1, 1) := by decide +kernel
theorem dX5_patternOf_11 : decode cX5_patternOf 11 = .ok (.getstatic 227, 3) := by decide +kernel
theorem dX5_patternOf_14 : decode cX5_patternOf 14 = .ok (.arraylength, 1) := by decide +kernel
theorem dX5_patternOf_15 : decode cX5_patternOf 15 = .ok (.if_icmp .ge 24, 3) := by decide +kernel
theorem dX5_patternOf_18 : decode cX5_patternOf 18 = .ok (.getstatic 230, 3) := by decide +kernel
theorem dX5_patternOf_21 : decode cX5_patternOf 21 = .ok (.iload_n 1, 1) := by decide +kernel
theorem dX5_patternOf_22 : decode cX5_patternOf 22 = .ok (.caload, 1) := by decide +kernel
theorem dX5_patternOf_23 : decode cX5_patternOf 23 = .ok (.iload_n 0, 1) := by decide +kernel
theorem dX5_patternOf_24 : decode cX5_patternOf 24 = .ok (.if_icmp .ne 9, 3) := by decide +kernel
theorem dX5_patternOf_27 : decode cX5_patternOf 27 = .ok (.getstatic 227, 3) := by decide +kernel
theorem dX5_patternOf_30 : decode cX5_patternOf 30 = .ok (.iload_n 1, 1) := by decide +kernel
theorem dX5_patternOf_31 : decode cX5_patternOf 31 = .ok (.iaload, 1) := by decide +kernel
theorem dX5_patternOf_32 : decode cX5_patternOf 32 = .ok (.ireturn, 1) := by decide +kernel
theorem dX5_patternOf_33 : decode cX5_patternOf 33 = .ok (.iinc 1 1, 3) := by decide +kernel
theorem dX5_patternOf_36 : decode cX5_patternOf 36 = .ok (.goto (-34), 3) := by decide +kernel
theorem dX5_patternOf_39 : decode cX5_patternOf 39 = .ok (.bipush (-4), 2) := by decide +kernel
theorem dX5_patternOf_41 : decode cX5_patternOf 41 = .ok (.ireturn, 1) := by decide +kernel
theorem dX5_glowLit_0 : decode cX5_glowLit 0 = .ok (.iconst 1, 1) := by decide +kernel
theorem dX5_glowLit_1 : decode cX5_glowLit 1 = .ok (.sipush 1000, 3) := by decide +kernel
theorem dX5_glowLit_4 : decode cX5_glowLit 4 = .ok (.iload_n 0, 1) := by decide +kernel
theorem dX5_glowLit_5 : decode cX5_glowLit 5 = .ok (.isub, 1) := by decide +kernel
theorem dX5_glowLit_6 : decode cX5_glowLit 6 = .ok (.iconst 4, 1) := by decide +kernel
theorem dX5_glowLit_7 : decode cX5_glowLit 7 = .ok (.idiv, 1) := by decide +kernel
theorem dX5_glowLit_8 : decode cX5_glowLit 8 = .ok (.invokestatic 234, 3) := by decide +kernel
theorem dX5_glowLit_11 : decode cX5_glowLit 11 = .ok (.istore_n 1, 1) := by decide +kernel
theorem dX5_glowLit_12 : decode cX5_glowLit 12 = .ok (.sipush 1000, 3) := by decide +kernel
theorem dX5_glowLit_15 : decode cX5_glowLit 15 = .ok (.iload_n 0, 1) := by decide +kernel
theorem dX5_glowLit_16 : decode cX5_glowLit 16 = .ok (.iload_n 1, 1) := by decide +kernel
theorem dX5_glowLit_17 : decode cX5_glowLit 17 = .ok (.iadd, 1) := by decide +kernel
theorem dX5_glowLit_18 : decode cX5_glowLit 18 = .ok (.invokestatic 240, 3) := by decide +kernel
theorem dX5_glowLit_21 : decode cX5_glowLit 21 = .ok (.ireturn, 1) := by decide +kernel
theorem dX5_glowUnlit_0 : decode cX5_glowUnlit 0 = .ok (.iload_n 1, 1) := by decide +kernel
theorem dX5_glowUnlit_1 : decode cX5_glowUnlit 1 = .ok (.ifCond .le 9, 3) := by decide +kernel
theorem dX5_glowUnlit_4 : decode cX5_glowUnlit 4 = .ok (.iload_n 0, 1) := by decide +kernel
theorem dX5_glowUnlit_5 : decode cX5_glowUnlit 5 = .ok (.iload_n 1, 1) := by decide +kernel
theorem dX5_glowUnlit_6 : decode cX5_glowUnlit 6 = .ok (.idiv, 1) := by decide +kernel
theorem dX5_glowUnlit_7 : decode cX5_glowUnlit 7 = .ok (.goto 4, 3) := by decide +kernel
theorem dX5_glowUnlit_10 : decode cX5_glowUnlit 10 = .ok (.iconst 0, 1) := by decide +kernel
theorem dX5_glowUnlit_11 : decode cX5_glowUnlit 11 = .ok (.istore_n 2, 1) := by decide +kernel
theorem dX5_glowUnlit_12 : decode cX5_glowUnlit 12 = .ok (.iconst 0, 1) := by decide +kernel
theorem dX5_glowUnlit_13 : decode cX5_glowUnlit 13 = .ok (.iload_n 0, 1) := by decide +kernel
theorem dX5_glowUnlit_14 : decode cX5_glowUnlit 14 = .ok (.iload_n 2, 1) := by decide +kernel
theorem dX5_glowUnlit_15 : decode cX5_glowUnlit 15 = .ok (.isub, 1) := by decide +kernel
theorem dX5_glowUnlit_16 : decode cX5_glowUnlit 16 = .ok (.iconst 1, 1) := by decide +kernel
theorem dX5_glowUnlit_17 : decode cX5_glowUnlit 17 = .ok (.isub, 1) := by decide +kernel
theorem dX5_glowUnlit_18 : decode cX5_glowUnlit 18 = .ok (.invokestatic 234, 3) := by decide +kernel
theorem dX5_glowUnlit_21 : decode cX5_glowUnlit 21 = .ok (.ireturn, 1) := by decide +kernel
set_option maxRecDepth 20000 in
theorem ggX5_glowOfFrames_X5_glowLit : GoodIn wsX5_glowOfFrames wsX5_glowLit := goodIn_r _ [4, 5, 6, 7, 8, 9, 10, 11] (by decide +kernel) (by decide +kernel)
set_option maxRecDepth 20000 in
theorem gX5_glowOfFrames_X5_glowLit : GoodIn wsX5_glowOfFrames (va_wsS RX5 243 yX5_glowLit wsX5_glowLit) := goodIn_app (goodIn_of _ (by decide +kernel)) ggX5_glowOfFrames_X5_glowLit
set_option maxRecDepth 20000 in
theorem ggX5_glowOfFrames_X5_glowUnlit : GoodIn wsX5_glowOfFrames wsX5_glowUnlit := goodIn_r _ [14, 5, 6, 7, 8] (by decide +kernel) (by decide +kernel)
set_option maxRecDepth 20000 in
theorem gX5_glowOfFrames_X5_glowUnlit : GoodIn wsX5_glowOfFrames (va_wsS RX5 246 yX5_glowUnlit wsX5_glowUnlit) := goodIn_app (goodIn_of _ (by decide +kernel)) ggX5_glowOfFrames_X5_glowUnlit
theorem dX5_glowOfFrames_0 : decode cX5_glowOfFrames 0 = .ok (.iconst (-1), 1) := by decide +kernel
theorem dX5_glowOfFrames_1 : decode cX5_glowOfFrames 1 = .ok (.istore_n 3, 1) := by decide +kernel
theorem dX5_glowOfFrames_2 : decode cX5_glowOfFrames 2 = .ok (.iconst 0, 1) := by decide +kernel
theorem dX5_glowOfFrames_3 : decode cX5_glowOfFrames 3 = .ok (.istore 4, 2) := by decide +kernel
theorem dX5_glowOfFrames_5 : decode cX5_glowOfFrames 5 = .ok (.iconst 0, 1) := by decide +kernel
theorem dX5_glowOfFrames_6 : decode cX5_glowOfFrames 6 = .ok (.istore 5, 2) := by decide +kernel
theorem dX5_glowOfFrames_8 : decode cX5_glowOfFrames 8 = .ok (.iload 5, 2) := by decide +kernel
theorem dX5_glowOfFrames_10 : decode cX5_glowOfFrames 10 = .ok (.sipush 1002, 3) := by decide +kernel
theorem dX5_glowOfFrames_13 : decode cX5_glowOfFrames 13 = .ok (.if_icmp .ge 66, 3) := by decide +kernel
theorem dX5_glowOfFrames_16 : decode cX5_glowOfFrames 16 = .ok (.iconst 0, 1) := by decide +kernel
theorem dX5_glowOfFrames_17 : decode cX5_glowOfFrames 17 = .ok (.istore 6, 2) := by decide +kernel
theorem dX5_glowOfFrames_19 : decode cX5_glowOfFrames 19 = .ok (.iload 6, 2) := by decide +kernel
theorem dX5_glowOfFrames_21 : decode cX5_glowOfFrames 21 = .ok (.iload_n 0, 1) := by decide +kernel
theorem dX5_glowOfFrames_22 : decode cX5_glowOfFrames 22 = .ok (.if_icmp .ge 16, 3) := by decide +kernel
theorem dX5_glowOfFrames_25 : decode cX5_glowOfFrames 25 = .ok (.iload 4, 2) := by decide +kernel
theorem dX5_glowOfFrames_27 : decode cX5_glowOfFrames 27 = .ok (.invokestatic 243, 3) := by decide +kernel
theorem dX5_glowOfFrames_30 : decode cX5_glowOfFrames 30 = .ok (.istore 4, 2) := by decide +kernel
theorem dX5_glowOfFrames_32 : decode cX5_glowOfFrames 32 = .ok (.iinc 6 1, 3) := by decide +kernel
theorem dX5_glowOfFrames_35 : decode cX5_glowOfFrames 35 = .ok (.goto (-16), 3) := by decide +kernel
theorem dX5_glowOfFrames_38 : decode cX5_glowOfFrames 38 = .ok (.iload 4, 2) := by decide +kernel
theorem dX5_glowOfFrames_40 : decode cX5_glowOfFrames 40 = .ok (.iload_n 3, 1) := by decide +kernel
theorem dX5_glowOfFrames_41 : decode cX5_glowOfFrames 41 = .ok (.if_icmp .ne 6, 3) := by decide +kernel
theorem dX5_glowOfFrames_44 : decode cX5_glowOfFrames 44 = .ok (.iload 4, 2) := by decide +kernel
theorem dX5_glowOfFrames_46 : decode cX5_glowOfFrames 46 = .ok (.ireturn, 1) := by decide +kernel
theorem dX5_glowOfFrames_47 : decode cX5_glowOfFrames 47 = .ok (.iload 4, 2) := by decide +kernel
theorem dX5_glowOfFrames_49 : decode cX5_glowOfFrames 49 = .ok (.istore_n 3, 1) := by decide +kernel
theorem dX5_glowOfFrames_50 : decode cX5_glowOfFrames 50 = .ok (.iconst 0, 1) := by decide +kernel
theorem dX5_glowOfFrames_51 : decode cX5_glowOfFrames 51 = .ok (.istore 6, 2) := by decide +kernel
theorem dX5_glowOfFrames_53 : decode cX5_glowOfFrames 53 = .ok (.iload 6, 2) := by decide +kernel
theorem dX5_glowOfFrames_55 : decode cX5_glowOfFrames 55 = .ok (.iload_n 1, 1) := by decide +kernel
theorem dX5_glowOfFrames_56 : decode cX5_glowOfFrames 56 = .ok (.if_icmp .ge 17, 3) := by decide +kernel
theorem dX5_glowOfFrames_59 : decode cX5_glowOfFrames 59 = .ok (.iload 4, 2) := by decide +kernel
theorem dX5_glowOfFrames_61 : decode cX5_glowOfFrames 61 = .ok (.iload_n 2, 1) := by decide +kernel
theorem dX5_glowOfFrames_62 : decode cX5_glowOfFrames 62 = .ok (.invokestatic 246, 3) := by decide +kernel
theorem dX5_glowOfFrames_65 : decode cX5_glowOfFrames 65 = .ok (.istore 4, 2) := by decide +kernel
theorem dX5_glowOfFrames_67 : decode cX5_glowOfFrames 67 = .ok (.iinc 6 1, 3) := by decide +kernel
theorem dX5_glowOfFrames_70 : decode cX5_glowOfFrames 70 = .ok (.goto (-17), 3) := by decide +kernel
theorem dX5_glowOfFrames_73 : decode cX5_glowOfFrames 73 = .ok (.iinc 5 1, 3) := by decide +kernel
theorem dX5_glowOfFrames_76 : decode cX5_glowOfFrames 76 = .ok (.goto (-68), 3) := by decide +kernel
theorem dX5_glowOfFrames_79 : decode cX5_glowOfFrames 79 = .ok (.iload_n 3, 1) := by decide +kernel
theorem dX5_glowOfFrames_80 : decode cX5_glowOfFrames 80 = .ok (.ireturn, 1) := by decide +kernel
set_option maxRecDepth 20000 in
theorem ggX6_init_X6_begins : GoodIn wsX6_init wsX6_begins := goodIn_r _ [24, 25, 26, 27, 23, 28, 5, 29, 30, 31, 32, 33, 34, 35, 36, 37, 38, 39, 40, 41, 42, 43, 44, 45] (by decide +kernel) (by decide +kernel)
set_option maxRecDepth 20000 in
theorem gX6_init_X6_begins : GoodIn wsX6_init (wsV RX6 47 RX6 yX6_begins wsX6_begins) := goodIn_app (goodIn_of _ (by decide +kernel)) ggX6_init_X6_begins
theorem dX6_init_0 : decode cX6_init 0 = .ok (.aload_n 0, 1) := by decide +kernel
theorem dX6_init_1 : decode cX6_init 1 = .ok (.invokespecial 1, 3) := by decide +kernel
theorem dX6_init_4 : decode cX6_init 4 = .ok (.aload_n 0, 1) := by decide +kernel
theorem dX6_init_5 : decode cX6_init 5 = .ok (.sipush 200, 3) := by decide +kernel
theorem dX6_init_8 : decode cX6_init 8 = .ok (.newarray .int, 2) := by decide +kernel
theorem dX6_init_10 : decode cX6_init 10 = .ok (.putfield 7, 3) := by decide +kernel
theorem dX6_init_13 : decode cX6_init 13 = .ok (.aload_n 0, 1) := by decide +kernel
theorem dX6_init_14 : decode cX6_init 14 = .ok (.iconst 3, 1) := by decide +kernel
theorem dX6_init_15 : decode cX6_init 15 = .ok (.newarray .float, 2) := by decide +kernel
theorem dX6_init_17 : decode cX6_init 17 = .ok (.putfield 13, 3) := by decide +kernel
theorem dX6_init_20 : decode cX6_init 20 = .ok (.aload_n 0, 1) := by decide +kernel
theorem dX6_init_21 : decode cX6_init 21 = .ok (.sipush 200, 3) := by decide +kernel
theorem dX6_init_24 : decode cX6_init 24 = .ok (.newarray .int, 2) := by decide +kernel
theorem dX6_init_26 : decode cX6_init 26 = .ok (.putfield 17, 3) := by decide +kernel
theorem dX6_init_29 : decode cX6_init 29 = .ok (.aload_n 0, 1) := by decide +kernel
theorem dX6_init_30 : decode cX6_init 30 = .ok (.iconst 3, 1) := by decide +kernel
theorem dX6_init_31 : decode cX6_init 31 = .ok (.newarray .float, 2) := by decide +kernel
theorem dX6_init_33 : decode cX6_init 33 = .ok (.putfield 20, 3) := by decide +kernel
theorem dX6_init_36 : decode cX6_init 36 = .ok (.aload_n 0, 1) := by decide +kernel
theorem dX6_init_37 : decode cX6_init 37 = .ok (.sipush 1000, 3) := by decide +kernel
theorem dX6_init_40 : decode cX6_init 40 = .ok (.newarray .int, 2) := by decide +kernel
theorem dX6_init_42 : decode cX6_init 42 = .ok (.putfield 23, 3) := by decide +kernel
theorem dX6_init_45 : decode cX6_init 45 = .ok (.aload_n 0, 1) := by decide +kernel
theorem dX6_init_46 : decode cX6_init 46 = .ok (.bipush 15, 2) := by decide +kernel
theorem dX6_init_48 : decode cX6_init 48 = .ok (.newarray .float, 2) := by decide +kernel
theorem dX6_init_50 : decode cX6_init 50 = .ok (.putfield 26, 3) := by decide +kernel
theorem dX6_init_53 : decode cX6_init 53 = .ok (.aload_n 0, 1) := by decide +kernel
theorem dX6_init_54 : decode cX6_init 54 = .ok (.sipush 400, 3) := by decide +kernel
theorem dX6_init_57 : decode cX6_init 57 = .ok (.newarray .int, 2) := by decide +kernel
theorem dX6_init_59 : decode cX6_init 59 = .ok (.putfield 29, 3) := by decide +kernel
theorem dX6_init_62 : decode cX6_init 62 = .ok (.aload_n 0, 1) := by decide +kernel
theorem dX6_init_63 : decode cX6_init 63 = .ok (.bipush 6, 2) := by decide +kernel
theorem dX6_init_65 : decode cX6_init 65 = .ok (.newarray .float, 2) := by decide +kernel
theorem dX6_init_67 : decode cX6_init 67 = .ok (.putfield 32, 3) := by decide +kernel
theorem dX6_init_70 : decode cX6_init 70 = .ok (.aload_n 0, 1) := by decide +kernel
theorem dX6_init_71 : decode cX6_init 71 = .ok (.iconst 2, 1) := by decide +kernel
theorem dX6_init_72 : decode cX6_init 72 = .ok (.newarray .boolean, 2) := by decide +kernel
theorem dX6_init_74 : decode cX6_init 74 = .ok (.putfield 35, 3) := by decide +kernel
theorem dX6_init_77 : decode cX6_init 77 = .ok (.aload_n 0, 1) := by decide +kernel
theorem dX6_init_78 : decode cX6_init 78 = .ok (.bipush 30, 2) := by decide +kernel
theorem dX6_init_80 : decode cX6_init 80 = .ok (.newarray .char, 2) := by decide +kernel
theorem dX6_init_82 : decode cX6_init 82 = .ok (.putfield 39, 3) := by decide +kernel
theorem dX6_init_85 : decode cX6_init 85 = .ok (.aload_n 0, 1) := by decide +kernel
theorem dX6_init_86 : decode cX6_init 86 = .ok (.bipush 8, 2) := by decide +kernel
theorem dX6_init_88 : decode cX6_init 88 = .ok (.newarray .int, 2) := by decide +kernel
theorem dX6_init_90 : decode cX6_init 90 = .ok (.putfield 43, 3) := by decide +kernel
theorem dX6_init_93 : decode cX6_init 93 = .ok (.aload_n 0, 1) := by decide +kernel
theorem dX6_init_94 : decode cX6_init 94 = .ok (.getfield 7, 3) := by decide +kernel
theorem dX6_init_97 : decode cX6_init 97 = .ok (.bipush 6, 2) := by decide +kernel
theorem dX6_init_99 : decode cX6_init 99 = .ok (.bipush 8, 2) := by decide +kernel
theorem dX6_init_101 : decode cX6_init 101 = .ok (.iastore, 1) := by decide +kernel
theorem dX6_init_102 : decode cX6_init 102 = .ok (.aload_n 0, 1) := by decide +kernel
theorem dX6_init_103 : decode cX6_init 103 = .ok (.getfield 7, 3) := by decide +kernel
theorem dX6_init_106 : decode cX6_init 106 = .ok (.bipush 7, 2) := by decide +kernel
theorem dX6_init_108 : decode cX6_init 108 = .ok (.sipush 200, 3) := by decide +kernel
theorem dX6_init_111 : decode cX6_init 111 = .ok (.iastore, 1) := by decide +kernel
theorem dX6_init_112 : decode cX6_init 112 = .ok (.aload_n 0, 1) := by decide +kernel
theorem dX6_init_113 : decode cX6_init 113 = .ok (.getfield 7, 3) := by decide +kernel
theorem dX6_init_116 : decode cX6_init 116 = .ok (.bipush 8, 2) := by decide +kernel
theorem dX6_init_118 : decode cX6_init 118 = .ok (.ldc 46, 2) := by decide +kernel
theorem dX6_init_120 : decode cX6_init 120 = .ok (.iastore, 1) := by decide +kernel
theorem dX6_init_121 : decode cX6_init 121 = .ok (.iconst 0, 1) := by decide +kernel
theorem dX6_init_122 : decode cX6_init 122 = .ok (.istore_n 1, 1) := by decide +kernel
theorem dX6_init_123 : decode cX6_init 123 = .ok (.iload_n 1, 1) := by decide +kernel
theorem dX6_init_124 : decode cX6_init 124 = .ok (.iconst 3, 1) := by decide +kernel
theorem dX6_init_125 : decode cX6_init 125 = .ok (.if_icmp .ge 29, 3) := by decide +kernel
theorem dX6_init_128 : decode cX6_init 128 = .ok (.aload_n 0, 1) := by decide +kernel
theorem dX6_init_129 : decode cX6_init 129 = .ok (.getfield 7, 3) := by decide +kernel
theorem dX6_init_132 : decode cX6_init 132 = .ok (.bipush 9, 2) := by decide +kernel
theorem dX6_init_134 : decode cX6_init 134 = .ok (.iload_n 1, 1) := by decide +kernel
theorem dX6_init_135 : decode cX6_init 135 = .ok (.iadd, 1) := by decide +kernel
theorem dX6_init_136 : decode cX6_init 136 = .ok (.iconst 5, 1) := by decide +kernel
theorem dX6_init_137 : decode cX6_init 137 = .ok (.iastore, 1) := by decide +kernel
theorem dX6_init_138 : decode cX6_init 138 = .ok (.aload_n 0, 1) := by decide +kernel
theorem dX6_init_139 : decode cX6_init 139 = .ok (.getfield 7, 3) := by decide +kernel
theorem dX6_init_142 : decode cX6_init 142 = .ok (.bipush 12, 2) := by decide +kernel
theorem dX6_init_144 : decode cX6_init 144 = .ok (.iload_n 1, 1) := by decide +kernel
theorem dX6_init_145 : decode cX6_init 145 = .ok (.iadd, 1) := by decide +kernel
theorem dX6_init_146 : decode cX6_init 146 = .ok (.iconst 5, 1) := by decide +kernel
theorem dX6_init_147 : decode cX6_init 147 = .ok (.iastore, 1) := by decide +kernel
theorem dX6_init_148 : decode cX6_init 148 = .ok (.iinc 1 1, 3) := by decide +kernel
theorem dX6_init_151 : decode cX6_init 151 = .ok (.goto (-28), 3) := by decide +kernel
theorem dX6_init_154 : decode cX6_init 154 = .ok (.iconst 0, 1) := by decide +kernel
theorem dX6_init_155 : decode cX6_init 155 = .ok (.istore_n 1, 1) := by decide +kernel
theorem dX6_init_156 : decode cX6_init 156 = .ok (.iload_n 1, 1) := by decide +kernel
theorem dX6_init_157 : decode cX6_init 157 = .ok (.iconst 4, 1) := by decide +kernel
theorem dX6_init_158 : decode cX6_init 158 = .ok (.if_icmp .ge 14, 3) := by decide +kernel
theorem dX6_init_161 : decode cX6_init 161 = .ok (.aload_n 0, 1) := by decide +kernel
theorem dX6_init_162 : decode cX6_init 162 = .ok (.iload_n 1, 1) := by decide +kernel
theorem dX6_init_163 : decode cX6_init 163 = .ok (.invokevirtual 47, 3) := by decide +kernel
theorem dX6_init_166 : decode cX6_init 166 = .ok (.iinc 1 1, 3) := by decide +kernel
theorem dX6_init_169 : decode cX6_init 169 = .ok (.goto (-13), 3) := by decide +kernel
theorem dX6_init_172 : decode cX6_init 172 = .ok (.aload_n 0, 1) := by decide +kernel
theorem dX6_init_173 : decode cX6_init 173 = .ok (.getfield 7, 3) := by decide +kernel
theorem dX6_init_176 : decode cX6_init 176 = .ok (.iconst 0, 1) := by decide +kernel
theorem dX6_init_177 : decode cX6_init 177 = .ok (.iconst 4, 1) := by decide +kernel
theorem dX6_init_178 : decode cX6_init 178 = .ok (.iastore, 1) := by decide +kernel
theorem dX6_init_179 : decode cX6_init 179 = .ok (.return_, 1) := by decide +kernel
theorem dX6_in_0 : decode cX6_in 0 = .ok (.iload_n 0, 1) := by decide +kernel
theorem dX6_in_1 : decode cX6_in 1 = .ok (.iload_n 1, 1) := by decide +kernel
theorem dX6_in_2 : decode cX6_in 2 = .ok (.if_icmp .lt 12, 3) := by decide +kernel
theorem dX6_in_5 : decode cX6_in 5 = .ok (.iload_n 0, 1) := by decide +kernel
theorem dX6_in_6 : decode cX6_in 6 = .ok (.iload_n 2, 1) := by decide +kernel
theorem dX6_in_7 : decode cX6_in 7 = .ok (.if_icmp .gt 7, 3) := by decide +kernel
theorem dX6_in_10 : decode cX6_in 10 = .ok (.iconst 1, 1) := by decide +kernel
theorem dX6_in_11 : decode cX6_in 11 = .ok (.goto 4, 3) := by decide +kernel
theorem dX6_in_14 : decode cX6_in 14 = .ok (.iconst 0, 1) := by decide +kernel
theorem dX6_in_15 : decode cX6_in 15 = .ok (.ireturn, 1) := by decide +kernel
theorem dX6_begin_0 : decode cX6_begin 0 = .ok (.iconst 0, 1) := by decide +kernel
theorem dX6_begin_1 : decode cX6_begin 1 = .ok (.istore_n 1, 1) := by decide +kernel
theorem dX6_begin_2 : decode cX6_begin 2 = .ok (.iload_n 1, 1) := by decide +kernel
theorem dX6_begin_3 : decode cX6_begin 3 = .ok (.sipush 200, 3) := by decide +kernel
theorem dX6_begin_6 : decode cX6_begin 6 = .ok (.if_icmp .ge 21, 3) := by decide +kernel
theorem dX6_begin_9 : decode cX6_begin 9 = .ok (.aload_n 0, 1) := by decide +kernel
theorem dX6_begin_10 : decode cX6_begin 10 = .ok (.getfield 17, 3) := by decide +kernel
theorem dX6_begin_13 : decode cX6_begin 13 = .ok (.iload_n 1, 1) := by decide +kernel
theorem dX6_begin_14 : decode cX6_begin 14 = .ok (.aload_n 0, 1) := by decide +kernel
theorem dX6_begin_15 : decode cX6_begin 15 = .ok (.getfield 7, 3) := by decide +kernel
theorem dX6_begin_18 : decode cX6_begin 18 = .ok (.iload_n 1, 1) := by decide +kernel
theorem dX6_begin_19 : decode cX6_begin 19 = .ok (.iaload, 1) := by decide +kernel
theorem dX6_begin_20 : decode cX6_begin 20 = .ok (.iastore, 1) := by decide +kernel
theorem dX6_begin_21 : decode cX6_begin 21 = .ok (.iinc 1 1, 3) := by decide +kernel
theorem dX6_begin_24 : decode cX6_begin 24 = .ok (.goto (-22), 3) := by decide +kernel
theorem dX6_begin_27 : decode cX6_begin 27 = .ok (.iconst 0, 1) := by decide +kernel
theorem dX6_begin_28 : decode cX6_begin 28 = .ok (.istore_n 1, 1) := by decide +kernel
theorem dX6_begin_29 : decode cX6_begin 29 = .ok (.iload_n 1, 1) := by decide +kernel
theorem dX6_begin_30 : decode cX6_begin 30 = .ok (.iconst 3, 1) := by decide +kernel
theorem dX6_begin_31 : decode cX6_begin 31 = .ok (.if_icmp .ge 21, 3) := by decide +kernel
theorem dX6_begin_34 : decode cX6_begin 34 = .ok (.aload_n 0, 1) := by decide +kernel
theorem dX6_begin_35 : decode cX6_begin 35 = .ok (.getfield 20, 3) := by decide +kernel
theorem dX6_begin_38 : decode cX6_begin 38 = .ok (.iload_n 1, 1) := by decide +kernel
theorem dX6_begin_39 : decode cX6_begin 39 = .ok (.aload_n 0, 1) := by decide +kernel
theorem dX6_begin_40 : decode cX6_begin 40 = .ok (.getfield 13, 3) := by decide +kernel
theorem dX6_begin_43 : decode cX6_begin 43 = .ok (.iload_n 1, 1) := by decide +kernel
theorem dX6_begin_44 : decode cX6_begin 44 = .ok (.faload, 1) := by decide +kernel
theorem dX6_begin_45 : decode cX6_begin 45 = .ok (.fastore, 1) := by decide +kernel
theorem dX6_begin_46 : decode cX6_begin 46 = .ok (.iinc 1 1, 3) := by decide +kernel
theorem dX6_begin_49 : decode cX6_begin 49 = .ok (.goto (-20), 3) := by decide +kernel
theorem dX6_begin_52 : decode cX6_begin 52 = .ok (.return_, 1) := by decide +kernel
theorem dX6_goBack_0 : decode cX6_goBack 0 = .ok (.iconst 0, 1) := by decide +kernel
theorem dX6_goBack_1 : decode cX6_goBack 1 = .ok (.istore_n 1, 1) := by decide +kernel
theorem dX6_goBack_2 : decode cX6_goBack 2 = .ok (.iload_n 1, 1) := by decide +kernel
theorem dX6_goBack_3 : decode cX6_goBack 3 = .ok (.sipush 200, 3) := by decide +kernel
theorem dX6_goBack_6 : decode cX6_goBack 6 = .ok (.if_icmp .ge 21, 3) := by decide +kernel
theorem dX6_goBack_9 : decode cX6_goBack 9 = .ok (.aload_n 0, 1) := by decide +kernel
theorem dX6_goBack_10 : decode cX6_goBack 10 = .ok (.getfield 7, 3) := by decide +kernel
theorem dX6_goBack_13 : decode cX6_goBack 13 = .ok (.iload_n 1, 1) := by decide +kernel
theorem dX6_goBack_14 : decode cX6_goBack 14 = .ok (.aload_n 0, 1) := by decide +kernel
theorem dX6_goBack_15 : decode cX6_goBack 15 = .ok (.getfield 17, 3) := by decide +kernel
theorem dX6_goBack_18 : decode cX6_goBack 18 = .ok (.iload_n 1, 1) := by decide +kernel
theorem dX6_goBack_19 : decode cX6_goBack 19 = .ok (.iaload, 1) := by decide +kernel
theorem dX6_goBack_20 : decode cX6_goBack 20 = .ok (.iastore, 1) := by decide +kernel
theorem dX6_goBack_21 : decode cX6_goBack 21 = .ok (.iinc 1 1, 3) := by decide +kernel
theorem dX6_goBack_24 : decode cX6_goBack 24 = .ok (.goto (-22), 3) := by decide +kernel
theorem dX6_goBack_27 : decode cX6_goBack 27 = .ok (.iconst 0, 1) := by decide +kernel
theorem dX6_goBack_28 : decode cX6_goBack 28 = .ok (.istore_n 1, 1) := by decide +kernel
theorem dX6_goBack_29 : decode cX6_goBack 29 = .ok (.iload_n 1, 1) := by decide +kernel
theorem dX6_goBack_30 : decode cX6_goBack 30 = .ok (.iconst 3, 1) := by decide +kernel
theorem dX6_goBack_31 : decode cX6_goBack 31 = .ok (.if_icmp .ge 21, 3) := by decide +kernel
theorem dX6_goBack_34 : decode cX6_goBack 34 = .ok (.aload_n 0, 1) := by decide +kernel
theorem dX6_goBack_35 : decode cX6_goBack 35 = .ok (.getfield 13, 3) := by decide +kernel
theorem dX6_goBack_38 : decode cX6_goBack 38 = .ok (.iload_n 1, 1) := by decide +kernel
theorem dX6_goBack_39 : decode cX6_goBack 39 = .ok (.aload_n 0, 1) := by decide +kernel
theorem dX6_goBack_40 : decode cX6_goBack 40 = .ok (.getfield 20, 3) := by decide +kernel
theorem dX6_goBack_43 : decode cX6_goBack 43 = .ok (.iload_n 1, 1) := by decide +kernel
theorem dX6_goBack_44 : decode cX6_goBack 44 = .ok (.faload, 1) := by decide +kernel
theorem dX6_goBack_45 : decode cX6_goBack 45 = .ok (.fastore, 1) := by decide +kernel
theorem dX6_goBack_46 : decode cX6_goBack 46 = .ok (.iinc 1 1, 3) := by decide +kernel
theorem dX6_goBack_49 : decode cX6_goBack 49 = .ok (.goto (-20), 3) := by decide +kernel
theorem dX6_goBack_52 : decode cX6_goBack 52 = .ok (.return_, 1) := by decide +kernel
theorem dX6_done_0 : decode cX6_done 0 = .ok (.aload_n 0, 1) := by decide +kernel
theorem dX6_done_1 : decode cX6_done 1 = .ok (.getfield 51, 3) := by decide +kernel
theorem dX6_done_4 : decode cX6_done 4 = .ok (.iconst 5, 1) := by decide +kernel
theorem dX6_done_5 : decode cX6_done 5 = .ok (.if_icmp .ne 81, 3) := by decide +kernel
theorem dX6_done_8 : decode cX6_done 8 = .ok (.aload_n 0, 1) := by decide +kernel
theorem dX6_done_9 : decode cX6_done 9 = .ok (.dup, 1) := by decide +kernel
theorem dX6_done_10 : decode cX6_done 10 = .ok (.getfield 51, 3) := by decide +kernel
theorem dX6_done_13 : decode cX6_done 13 = .ok (.iconst 1, 1) := by decide +kernel
theorem dX6_done_14 : decode cX6_done 14 = .ok (.isub, 1) := by decide +kernel
theorem dX6_done_15 : decode cX6_done 15 = .ok (.putfield 51, 3) := by decide +kernel
theorem dX6_done_18 : decode cX6_done 18 = .ok (.iconst 0, 1) := by decide +kernel
theorem dX6_done_19 : decode cX6_done 19 = .ok (.istore_n 2, 1) := by decide +kernel
theorem dX6_done_20 : decode cX6_done 20 = .ok (.iload_n 2, 1) := by decide +kernel
theorem dX6_done_21 : decode cX6_done 21 = .ok (.sipush 200, 3) := by decide +kernel
theorem dX6_done_24 : decode cX6_done 24 = .ok (.aload_n 0, 1) := by decide +kernel
theorem dX6_done_25 : decode cX6_done 25 = .ok (.getfield 51, 3) := by decide +kernel
theorem dX6_done_28 : decode cX6_done 28 = .ok (.imul, 1) := by decide +kernel
theorem dX6_done_29 : decode cX6_done 29 = .ok (.if_icmp .ge 25, 3) := by decide +kernel
theorem dX6_done_32 : decode cX6_done 32 = .ok (.aload_n 0, 1) := by decide +kernel
theorem dX6_done_33 : decode cX6_done 33 = .ok (.getfield 23, 3) := by decide +kernel
theorem dX6_done_36 : decode cX6_done 36 = .ok (.iload_n 2, 1) := by decide +kernel
theorem dX6_done_37 : decode cX6_done 37 = .ok (.aload_n 0, 1) := by decide +kernel
theorem dX6_done_38 : decode cX6_done 38 = .ok (.getfield 23, 3) := by decide +kernel
theorem dX6_done_41 : decode cX6_done 41 = .ok (.iload_n 2, 1) := by decide +kernel
theorem dX6_done_42 : decode cX6_done 42 = .ok (.sipush 200, 3) := by decide +kernel
theorem dX6_done_45 : decode cX6_done 45 = .ok (.iadd, 1) := by decide +kernel
theorem dX6_done_46 : decode cX6_done 46 = .ok (.iaload, 1) := by decide +kernel
theorem dX6_done_47 : decode cX6_done 47 = .ok (.iastore, 1) := by decide +kernel
theorem dX6_done_48 : decode cX6_done 48 = .ok (.iinc 2 1, 3) := by decide +kernel
theorem dX6_done_51 : decode cX6_done 51 = .ok (.goto (-31), 3) := by decide +kernel
theorem dX6_done_54 : decode cX6_done 54 = .ok (.iconst 0, 1) := by decide +kernel
theorem dX6_done_55 : decode cX6_done 55 = .ok (.istore_n 2, 1) := by decide +kernel
theorem dX6_done_56 : decode cX6_done 56 = .ok (.iload_n 2, 1) := by decide +kernel
theorem dX6_done_57 : decode cX6_done 57 = .ok (.iconst 3, 1) := by decide +kernel
theorem dX6_done_58 : decode cX6_done 58 = .ok (.aload_n 0, 1) := by decide +kernel
theorem dX6_done_59 : decode cX6_done 59 = .ok (.getfield 51, 3) := by decide +kernel
theorem dX6_done_62 : decode cX6_done 62 = .ok (.imul, 1) := by decide +kernel
theorem dX6_done_63 : decode cX6_done 63 = .ok (.if_icmp .ge 23, 3) := by decide +kernel
theorem dX6_done_66 : decode cX6_done 66 = .ok (.aload_n 0, 1) := by decide +kernel
theorem dX6_done_67 : decode cX6_done 67 = .ok (.getfield 26, 3) := by decide +kernel
theorem dX6_done_70 : decode cX6_done 70 = .ok (.iload_n 2, 1) := by decide +kernel
theorem dX6_done_71 : decode cX6_done 71 = .ok (.aload_n 0, 1) := by decide +kernel
theorem dX6_done_72 : decode cX6_done 72 = .ok (.getfield 26, 3) := by decide +kernel
theorem dX6_done_75 : decode cX6_done 75 = .ok (.iload_n 2, 1) := by decide +kernel
theorem dX6_done_76 : decode cX6_done 76 = .ok (.iconst 3, 1) := by decide +kernel
theorem dX6_done_77 : decode cX6_done 77 = .ok (.iadd, 1) := by decide +kernel
theorem dX6_done_78 : decode cX6_done 78 = .ok (.faload, 1) := by decide +kernel
theorem dX6_done_79 : decode cX6_done 79 = .ok (.fastore, 1) := by decide +kernel
theorem dX6_done_80 : decode cX6_done 80 = .ok (.iinc 2 1, 3) := by decide +kernel
theorem dX6_done_83 : decode cX6_done 83 = .ok (.goto (-27), 3) := by decide +kernel
theorem dX6_done_86 : decode cX6_done 86 = .ok (.iconst 0, 1) := by decide +kernel
theorem dX6_done_87 : decode cX6_done 87 = .ok (.istore_n 2, 1) := by decide +kernel
theorem dX6_done_88 : decode cX6_done 88 = .ok (.iload_n 2, 1) := by decide +kernel
theorem dX6_done_89 : decode cX6_done 89 = .ok (.sipush 200, 3) := by decide +kernel
theorem dX6_done_92 : decode cX6_done 92 = .ok (.if_icmp .ge 30, 3) := by decide +kernel
theorem dX6_done_95 : decode cX6_done 95 = .ok (.aload_n 0, 1) := by decide +kernel
theorem dX6_done_96 : decode cX6_done 96 = .ok (.getfield 23, 3) := by decide +kernel
theorem dX6_done_99 : decode cX6_done 99 = .ok (.sipush 200, 3) := by decide +kernel
theorem dX6_done_102 : decode cX6_done 102 = .ok (.aload_n 0, 1) := by decide +kernel
theorem dX6_done_103 : decode cX6_done 103 = .ok (.getfield 51, 3) := by decide +kernel
theorem dX6_done_106 : decode cX6_done 106 = .ok (.imul, 1) := by decide +kernel
theorem dX6_done_107 : decode cX6_done 107 = .ok (.iload_n 2, 1) := by decide +kernel
theorem dX6_done_108 : decode cX6_done 108 = .ok (.iadd, 1) := by decide +kernel
theorem dX6_done_109 : decode cX6_done 109 = .ok (.aload_n 0, 1) := by decide +kernel
end
section
theorem dX6_done_110 : decode cX6_done 110 = .ok (.getfield 17, 3) := by decide +kernel
theorem dX6_done_113 : decode cX6_done 113 = .ok (.iload_n 2, 1) := by decide +kernel
theorem dX6_done_114 : decode cX6_done 114 = .ok (.iaload, 1) := by decide +kernel
theorem dX6_done_115 : decode cX6_done 115 = .ok (.iastore, 1) := by decide +kernel
theorem dX6_done_116 : decode cX6_done 116 = .ok (.iinc 2 1, 3) := by decide +kernel
theorem dX6_done_119 : decode cX6_done 119 = .ok (.goto (-31), 3) := by decide +kernel
theorem dX6_done_122 : decode cX6_done 122 = .ok (.iconst 0, 1) := by decide +kernel
theorem dX6_done_123 : decode cX6_done 123 = .ok (.istore_n 2, 1) := by decide +kernel
theorem dX6_done_124 : decode cX6_done 124 = .ok (.iload_n 2, 1) := by decide +kernel
theorem dX6_done_125 : decode cX6_done 125 = .ok (.iconst 3, 1) := by decide +kernel
theorem dX6_done_126 : decode cX6_done 126 = .ok (.if_icmp .ge 28, 3) := by decide +kernel
theorem dX6_done_129 : decode cX6_done 129 = .ok (.aload_n 0, 1) := by decide +kernel
theorem dX6_done_130 : decode cX6_done 130 = .ok (.getfield 26, 3) := by decide +kernel
theorem dX6_done_133 : decode cX6_done 133 = .ok (.iconst 3, 1) := by decide +kernel
theorem dX6_done_134 : decode cX6_done 134 = .ok (.aload_n 0, 1) := by decide +kernel
theorem dX6_done_135 : decode cX6_done 135 = .ok (.getfield 51, 3) := by decide +kernel
theorem dX6_done_138 : decode cX6_done 138 = .ok (.imul, 1) := by decide +kernel
theorem dX6_done_139 : decode cX6_done 139 = .ok (.iload_n 2, 1) := by decide +kernel
theorem dX6_done_140 : decode cX6_done 140 = .ok (.iadd, 1) := by decide +kernel
theorem dX6_done_141 : decode cX6_done 141 = .ok (.aload_n 0, 1) := by decide +kernel
theorem dX6_done_142 : decode cX6_done 142 = .ok (.getfield 20, 3) := by decide +kernel
theorem dX6_done_145 : decode cX6_done 145 = .ok (.iload_n 2, 1) := by decide +kernel
theorem dX6_done_146 : decode cX6_done 146 = .ok (.faload, 1) := by decide +kernel
theorem dX6_done_147 : decode cX6_done 147 = .ok (.fastore, 1) := by decide +kernel
theorem dX6_done_148 : decode cX6_done 148 = .ok (.iinc 2 1, 3) := by decide +kernel
theorem dX6_done_151 : decode cX6_done 151 = .ok (.goto (-27), 3) := by decide +kernel
theorem dX6_done_154 : decode cX6_done 154 = .ok (.aload_n 0, 1) := by decide +kernel
theorem dX6_done_155 : decode cX6_done 155 = .ok (.dup, 1) := by decide +kernel
theorem dX6_done_156 : decode cX6_done 156 = .ok (.getfield 51, 3) := by decide +kernel
theorem dX6_done_159 : decode cX6_done 159 = .ok (.iconst 1, 1) := by decide +kernel
theorem dX6_done_160 : decode cX6_done 160 = .ok (.iadd, 1) := by decide +kernel
theorem dX6_done_161 : decode cX6_done 161 = .ok (.putfield 51, 3) := by decide +kernel
theorem dX6_done_164 : decode cX6_done 164 = .ok (.iload_n 1, 1) := by decide +kernel
theorem dX6_done_165 : decode cX6_done 165 = .ok (.ireturn, 1) := by decide +kernel
theorem dX6_undo_0 : decode cX6_undo 0 = .ok (.aload_n 0, 1) := by decide +kernel
theorem dX6_undo_1 : decode cX6_undo 1 = .ok (.getfield 51, 3) := by decide +kernel
theorem dX6_undo_4 : decode cX6_undo 4 = .ok (.ifCond .ne 6, 3) := by decide +kernel
theorem dX6_undo_7 : decode cX6_undo 7 = .ok (.bipush (-4), 2) := by decide +kernel
theorem dX6_undo_9 : decode cX6_undo 9 = .ok (.ireturn, 1) := by decide +kernel
theorem dX6_undo_10 : decode cX6_undo 10 = .ok (.aload_n 0, 1) := by decide +kernel
theorem dX6_undo_11 : decode cX6_undo 11 = .ok (.dup, 1) := by decide +kernel
theorem dX6_undo_12 : decode cX6_undo 12 = .ok (.getfield 51, 3) := by decide +kernel
theorem dX6_undo_15 : decode cX6_undo 15 = .ok (.iconst 1, 1) := by decide +kernel
theorem dX6_undo_16 : decode cX6_undo 16 = .ok (.isub, 1) := by decide +kernel
theorem dX6_undo_17 : decode cX6_undo 17 = .ok (.putfield 51, 3) := by decide +kernel
theorem dX6_undo_20 : decode cX6_undo 20 = .ok (.iconst 0, 1) := by decide +kernel
theorem dX6_undo_21 : decode cX6_undo 21 = .ok (.istore_n 1, 1) := by decide +kernel
theorem dX6_undo_22 : decode cX6_undo 22 = .ok (.iload_n 1, 1) := by decide +kernel
theorem dX6_undo_23 : decode cX6_undo 23 = .ok (.sipush 200, 3) := by decide +kernel
theorem dX6_undo_26 : decode cX6_undo 26 = .ok (.if_icmp .ge 30, 3) := by decide +kernel
theorem dX6_undo_29 : decode cX6_undo 29 = .ok (.aload_n 0, 1) := by decide +kernel
theorem dX6_undo_30 : decode cX6_undo 30 = .ok (.getfield 7, 3) := by decide +kernel
theorem dX6_undo_33 : decode cX6_undo 33 = .ok (.iload_n 1, 1) := by decide +kernel
theorem dX6_undo_34 : decode cX6_undo 34 = .ok (.aload_n 0, 1) := by decide +kernel
theorem dX6_undo_35 : decode cX6_undo 35 = .ok (.getfield 23, 3) := by decide +kernel
theorem dX6_undo_38 : decode cX6_undo 38 = .ok (.sipush 200, 3) := by decide +kernel
theorem dX6_undo_41 : decode cX6_undo 41 = .ok (.aload_n 0, 1) := by decide +kernel
theorem dX6_undo_42 : decode cX6_undo 42 = .ok (.getfield 51, 3) := by decide +kernel
theorem dX6_undo_45 : decode cX6_undo 45 = .ok (.imul, 1) := by decide +kernel
theorem dX6_undo_46 : decode cX6_undo 46 = .ok (.iload_n 1, 1) := by decide +kernel
theorem dX6_undo_47 : decode cX6_undo 47 = .ok (.iadd, 1) := by decide +kernel
theorem dX6_undo_48 : decode cX6_undo 48 = .ok (.iaload, 1) := by decide +kernel
theorem dX6_undo_49 : decode cX6_undo 49 = .ok (.iastore, 1) := by decide +kernel
theorem dX6_undo_50 : decode cX6_undo 50 = .ok (.iinc 1 1, 3) := by decide +kernel
theorem dX6_undo_53 : decode cX6_undo 53 = .ok (.goto (-31), 3) := by decide +kernel
theorem dX6_undo_56 : decode cX6_undo 56 = .ok (.iconst 0, 1) := by decide +kernel
theorem dX6_undo_57 : decode cX6_undo 57 = .ok (.istore_n 1, 1) := by decide +kernel
theorem dX6_undo_58 : decode cX6_undo 58 = .ok (.iload_n 1, 1) := by decide +kernel
theorem dX6_undo_59 : decode cX6_undo 59 = .ok (.iconst 3, 1) := by decide +kernel
theorem dX6_undo_60 : decode cX6_undo 60 = .ok (.if_icmp .ge 28, 3) := by decide +kernel
theorem dX6_undo_63 : decode cX6_undo 63 = .ok (.aload_n 0, 1) := by decide +kernel
theorem dX6_undo_64 : decode cX6_undo 64 = .ok (.getfield 13, 3) := by decide +kernel
theorem dX6_undo_67 : decode cX6_undo 67 = .ok (.iload_n 1, 1) := by decide +kernel
theorem dX6_undo_68 : decode cX6_undo 68 = .ok (.aload_n 0, 1) := by decide +kernel
theorem dX6_undo_69 : decode cX6_undo 69 = .ok (.getfield 26, 3) := by decide +kernel
theorem dX6_undo_72 : decode cX6_undo 72 = .ok (.iconst 3, 1) := by decide +kernel
theorem dX6_undo_73 : decode cX6_undo 73 = .ok (.aload_n 0, 1) := by decide +kernel
theorem dX6_undo_74 : decode cX6_undo 74 = .ok (.getfield 51, 3) := by decide +kernel
theorem dX6_undo_77 : decode cX6_undo 77 = .ok (.imul, 1) := by decide +kernel
theorem dX6_undo_78 : decode cX6_undo 78 = .ok (.iload_n 1, 1) := by decide +kernel
theorem dX6_undo_79 : decode cX6_undo 79 = .ok (.iadd, 1) := by decide +kernel
theorem dX6_undo_80 : decode cX6_undo 80 = .ok (.faload, 1) := by decide +kernel
theorem dX6_undo_81 : decode cX6_undo 81 = .ok (.fastore, 1) := by decide +kernel
theorem dX6_undo_82 : decode cX6_undo 82 = .ok (.iinc 1 1, 3) := by decide +kernel
theorem dX6_undo_85 : decode cX6_undo 85 = .ok (.goto (-27), 3) := by decide +kernel
theorem dX6_undo_88 : decode cX6_undo 88 = .ok (.aload_n 0, 1) := by decide +kernel
theorem dX6_undo_89 : decode cX6_undo 89 = .ok (.getfield 51, 3) := by decide +kernel
theorem dX6_undo_92 : decode cX6_undo 92 = .ok (.ireturn, 1) := by decide +kernel
set_option maxRecDepth 20000 in
theorem ggX6_keep_X6_in : GoodIn wsX6_keep wsX6_in := goodIn_r _ [9] (by decide +kernel) (by decide +kernel)
set_option maxRecDepth 20000 in
theorem gX6_keep_X6_in : GoodIn wsX6_keep (va_wsS RX6 55 yX6_in wsX6_in) := goodIn_app (goodIn_of _ (by decide +kernel)) ggX6_keep_X6_in
theorem dX6_keep_0 : decode cX6_keep 0 = .ok (.iload_n 1, 1) := by decide +kernel
theorem dX6_keep_1 : decode cX6_keep 1 = .ok (.iconst 0, 1) := by decide +kernel
theorem dX6_keep_2 : decode cX6_keep 2 = .ok (.iconst 1, 1) := by decide +kernel
theorem dX6_keep_3 : decode cX6_keep 3 = .ok (.invokestatic 55, 3) := by decide +kernel
theorem dX6_keep_6 : decode cX6_keep 6 = .ok (.ifCond .ne 5, 3) := by decide +kernel
theorem dX6_keep_9 : decode cX6_keep 9 = .ok (.iconst (-1), 1) := by decide +kernel
theorem dX6_keep_10 : decode cX6_keep 10 = .ok (.ireturn, 1) := by decide +kernel
theorem dX6_keep_11 : decode cX6_keep 11 = .ok (.aload_n 0, 1) := by decide +kernel
theorem dX6_keep_12 : decode cX6_keep 12 = .ok (.getfield 35, 3) := by decide +kernel
theorem dX6_keep_15 : decode cX6_keep 15 = .ok (.iload_n 1, 1) := by decide +kernel
theorem dX6_keep_16 : decode cX6_keep 16 = .ok (.iconst 1, 1) := by decide +kernel
theorem dX6_keep_17 : decode cX6_keep 17 = .ok (.bastore, 1) := by decide +kernel
theorem dX6_keep_18 : decode cX6_keep 18 = .ok (.iconst 0, 1) := by decide +kernel
theorem dX6_keep_19 : decode cX6_keep 19 = .ok (.istore_n 2, 1) := by decide +kernel
theorem dX6_keep_20 : decode cX6_keep 20 = .ok (.iload_n 2, 1) := by decide +kernel
theorem dX6_keep_21 : decode cX6_keep 21 = .ok (.sipush 200, 3) := by decide +kernel
theorem dX6_keep_24 : decode cX6_keep 24 = .ok (.if_icmp .ge 27, 3) := by decide +kernel
theorem dX6_keep_27 : decode cX6_keep 27 = .ok (.aload_n 0, 1) := by decide +kernel
theorem dX6_keep_28 : decode cX6_keep 28 = .ok (.getfield 29, 3) := by decide +kernel
theorem dX6_keep_31 : decode cX6_keep 31 = .ok (.sipush 200, 3) := by decide +kernel
theorem dX6_keep_34 : decode cX6_keep 34 = .ok (.iload_n 1, 1) := by decide +kernel
theorem dX6_keep_35 : decode cX6_keep 35 = .ok (.imul, 1) := by decide +kernel
theorem dX6_keep_36 : decode cX6_keep 36 = .ok (.iload_n 2, 1) := by decide +kernel
theorem dX6_keep_37 : decode cX6_keep 37 = .ok (.iadd, 1) := by decide +kernel
theorem dX6_keep_38 : decode cX6_keep 38 = .ok (.aload_n 0, 1) := by decide +kernel
theorem dX6_keep_39 : decode cX6_keep 39 = .ok (.getfield 7, 3) := by decide +kernel
theorem dX6_keep_42 : decode cX6_keep 42 = .ok (.iload_n 2, 1) := by decide +kernel
theorem dX6_keep_43 : decode cX6_keep 43 = .ok (.iaload, 1) := by decide +kernel
theorem dX6_keep_44 : decode cX6_keep 44 = .ok (.iastore, 1) := by decide +kernel
theorem dX6_keep_45 : decode cX6_keep 45 = .ok (.iinc 2 1, 3) := by decide +kernel
theorem dX6_keep_48 : decode cX6_keep 48 = .ok (.goto (-28), 3) := by decide +kernel
theorem dX6_keep_51 : decode cX6_keep 51 = .ok (.iconst 0, 1) := by decide +kernel
theorem dX6_keep_52 : decode cX6_keep 52 = .ok (.istore_n 2, 1) := by decide +kernel
theorem dX6_keep_53 : decode cX6_keep 53 = .ok (.iload_n 2, 1) := by decide +kernel
theorem dX6_keep_54 : decode cX6_keep 54 = .ok (.iconst 3, 1) := by decide +kernel
theorem dX6_keep_55 : decode cX6_keep 55 = .ok (.if_icmp .ge 25, 3) := by decide +kernel
theorem dX6_keep_58 : decode cX6_keep 58 = .ok (.aload_n 0, 1) := by decide +kernel
theorem dX6_keep_59 : decode cX6_keep 59 = .ok (.getfield 32, 3) := by decide +kernel
theorem dX6_keep_62 : decode cX6_keep 62 = .ok (.iconst 3, 1) := by decide +kernel
theorem dX6_keep_63 : decode cX6_keep 63 = .ok (.iload_n 1, 1) := by decide +kernel
theorem dX6_keep_64 : decode cX6_keep 64 = .ok (.imul, 1) := by decide +kernel
theorem dX6_keep_65 : decode cX6_keep 65 = .ok (.iload_n 2, 1) := by decide +kernel
theorem dX6_keep_66 : decode cX6_keep 66 = .ok (.iadd, 1) := by decide +kernel
theorem dX6_keep_67 : decode cX6_keep 67 = .ok (.aload_n 0, 1) := by decide +kernel
theorem dX6_keep_68 : decode cX6_keep 68 = .ok (.getfield 13, 3) := by decide +kernel
theorem dX6_keep_71 : decode cX6_keep 71 = .ok (.iload_n 2, 1) := by decide +kernel
theorem dX6_keep_72 : decode cX6_keep 72 = .ok (.faload, 1) := by decide +kernel
theorem dX6_keep_73 : decode cX6_keep 73 = .ok (.fastore, 1) := by decide +kernel
theorem dX6_keep_74 : decode cX6_keep 74 = .ok (.iinc 2 1, 3) := by decide +kernel
theorem dX6_keep_77 : decode cX6_keep 77 = .ok (.goto (-24), 3) := by decide +kernel
theorem dX6_keep_80 : decode cX6_keep 80 = .ok (.aload_n 0, 1) := by decide +kernel
theorem dX6_keep_81 : decode cX6_keep 81 = .ok (.getfield 7, 3) := by decide +kernel
theorem dX6_keep_84 : decode cX6_keep 84 = .ok (.iconst 1, 1) := by decide +kernel
theorem dX6_keep_85 : decode cX6_keep 85 = .ok (.iaload, 1) := by decide +kernel
theorem dX6_keep_86 : decode cX6_keep 86 = .ok (.ireturn, 1) := by decide +kernel
set_option maxRecDepth 20000 in
theorem ggX6_restore_X6_in : GoodIn wsX6_restore wsX6_in := goodIn_r _ [9] (by decide +kernel) (by decide +kernel)
set_option maxRecDepth 20000 in
theorem gX6_restore_X6_in : GoodIn wsX6_restore (va_wsS RX6 55 yX6_in wsX6_in) := goodIn_app (goodIn_of _ (by decide +kernel)) ggX6_restore_X6_in
set_option maxRecDepth 20000 in
theorem ggX6_restore_X6_begin : GoodIn wsX6_restore wsX6_begin := goodIn_r _ [13, 14, 2, 15, 4, 23, 24, 25, 26, 27, 28, 29, 30, 31, 32, 33, 34, 35] (by decide +kernel) (by decide +kernel)
set_option maxRecDepth 20000 in
theorem gX6_restore_X6_begin : GoodIn wsX6_restore (wsV RX6 59 RX6 yX6_begin wsX6_begin) := goodIn_app (goodIn_of _ (by decide +kernel)) ggX6_restore_X6_begin
set_option maxRecDepth 20000 in
theorem ggX6_restore_X6_done : GoodIn wsX6_restore wsX6_done := goodIn_r _ [19, 20, 21, 22, 14, 15, 23, 24, 25, 26, 27, 28, 29, 30, 31, 32, 33, 34, 35] (by decide +kernel) (by decide +kernel)
set_option maxRecDepth 20000 in
theorem gX6_restore_X6_done : GoodIn wsX6_restore (wsV RX6 62 RX6 yX6_done wsX6_done) := goodIn_app (goodIn_of _ (by decide +kernel)) ggX6_restore_X6_done
theorem dX6_restore_0 : decode cX6_restore 0 = .ok (.iload_n 1, 1) := by decide +kernel
theorem dX6_restore_1 : decode cX6_restore 1 = .ok (.iconst 0, 1) := by decide +kernel
theorem dX6_restore_2 : decode cX6_restore 2 = .ok (.iconst 1, 1) := by decide +kernel
theorem dX6_restore_3 : decode cX6_restore 3 = .ok (.invokestatic 55, 3) := by decide +kernel
theorem dX6_restore_6 : decode cX6_restore 6 = .ok (.ifCond .ne 5, 3) := by decide +kernel
theorem dX6_restore_9 : decode cX6_restore 9 = .ok (.iconst (-1), 1) := by decide +kernel
theorem dX6_restore_10 : decode cX6_restore 10 = .ok (.ireturn, 1) := by decide +kernel
theorem dX6_restore_11 : decode cX6_restore 11 = .ok (.aload_n 0, 1) := by decide +kernel
theorem dX6_restore_12 : decode cX6_restore 12 = .ok (.getfield 35, 3) := by decide +kernel
theorem dX6_restore_15 : decode cX6_restore 15 = .ok (.iload_n 1, 1) := by decide +kernel
theorem dX6_restore_16 : decode cX6_restore 16 = .ok (.baload, 1) := by decide +kernel
theorem dX6_restore_17 : decode cX6_restore 17 = .ok (.ifCond .ne 6, 3) := by decide +kernel
theorem dX6_restore_20 : decode cX6_restore 20 = .ok (.bipush (-4), 2) := by decide +kernel
theorem dX6_restore_22 : decode cX6_restore 22 = .ok (.ireturn, 1) := by decide +kernel
theorem dX6_restore_23 : decode cX6_restore 23 = .ok (.aload_n 0, 1) := by decide +kernel
theorem dX6_restore_24 : decode cX6_restore 24 = .ok (.invokevirtual 59, 3) := by decide +kernel
theorem dX6_restore_27 : decode cX6_restore 27 = .ok (.iconst 0, 1) := by decide +kernel
theorem dX6_restore_28 : decode cX6_restore 28 = .ok (.istore_n 2, 1) := by decide +kernel
theorem dX6_restore_29 : decode cX6_restore 29 = .ok (.iload_n 2, 1) := by decide +kernel
theorem dX6_restore_30 : decode cX6_restore 30 = .ok (.sipush 200, 3) := by decide +kernel
theorem dX6_restore_33 : decode cX6_restore 33 = .ok (.if_icmp .ge 27, 3) := by decide +kernel
theorem dX6_restore_36 : decode cX6_restore 36 = .ok (.aload_n 0, 1) := by decide +kernel
theorem dX6_restore_37 : decode cX6_restore 37 = .ok (.getfield 7, 3) := by decide +kernel
theorem dX6_restore_40 : decode cX6_restore 40 = .ok (.iload_n 2, 1) := by decide +kernel
theorem dX6_restore_41 : decode cX6_restore 41 = .ok (.aload_n 0, 1) := by decide +kernel
theorem dX6_restore_42 : decode cX6_restore 42 = .ok (.getfield 29, 3) := by decide +kernel
theorem dX6_restore_45 : decode cX6_restore 45 = .ok (.sipush 200, 3) := by decide +kernel
theorem dX6_restore_48 : decode cX6_restore 48 = .ok (.iload_n 1, 1) := by decide +kernel
theorem dX6_restore_49 : decode cX6_restore 49 = .ok (.imul, 1) := by decide +kernel
theorem dX6_restore_50 : decode cX6_restore 50 = .ok (.iload_n 2, 1) := by decide +kernel
theorem dX6_restore_51 : decode cX6_restore 51 = .ok (.iadd, 1) := by decide +kernel
theorem dX6_restore_52 : decode cX6_restore 52 = .ok (.iaload, 1) := by decide +kernel
theorem dX6_restore_53 : decode cX6_restore 53 = .ok (.iastore, 1) := by decide +kernel
theorem dX6_restore_54 : decode cX6_restore 54 = .ok (.iinc 2 1, 3) := by decide +kernel
theorem dX6_restore_57 : decode cX6_restore 57 = .ok (.goto (-28), 3) := by decide +kernel
theorem dX6_restore_60 : decode cX6_restore 60 = .ok (.iconst 0, 1) := by decide +kernel
theorem dX6_restore_61 : decode cX6_restore 61 = .ok (.istore_n 2, 1) := by decide +kernel
theorem dX6_restore_62 : decode cX6_restore 62 = .ok (.iload_n 2, 1) := by decide +kernel
theorem dX6_restore_63 : decode cX6_restore 63 = .ok (.iconst 3, 1) := by decide +kernel
theorem dX6_restore_64 : decode cX6_restore 64 = .ok (.if_icmp .ge 25, 3) := by decide +kernel
theorem dX6_restore_67 : decode cX6_restore 67 = .ok (.aload_n 0, 1) := by decide +kernel
theorem dX6_restore_68 : decode cX6_restore 68 = .ok (.getfield 13, 3) := by decide +kernel
theorem dX6_restore_71 : decode cX6_restore 71 = .ok (.iload_n 2, 1) := by decide +kernel
theorem dX6_restore_72 : decode cX6_restore 72 = .ok (.aload_n 0, 1) := by decide +kernel
theorem dX6_restore_73 : decode cX6_restore 73 = .ok (.getfield 32, 3) := by decide +kernel
theorem dX6_restore_76 : decode cX6_restore 76 = .ok (.iconst 3, 1) := by decide +kernel
theorem dX6_restore_77 : decode cX6_restore 77 = .ok (.iload_n 1, 1) := by decide +kernel
theorem dX6_restore_78 : decode cX6_restore 78 = .ok (.imul, 1) := by decide +kernel
theorem dX6_restore_79 : decode cX6_restore 79 = .ok (.iload_n 2, 1) := by decide +kernel
theorem dX6_restore_80 : decode cX6_restore 80 = .ok (.iadd, 1) := by decide +kernel
theorem dX6_restore_81 : decode cX6_restore 81 = .ok (.faload, 1) := by decide +kernel
theorem dX6_restore_82 : decode cX6_restore 82 = .ok (.fastore, 1) := by decide +kernel
theorem dX6_restore_83 : decode cX6_restore 83 = .ok (.iinc 2 1, 3) := by decide +kernel
theorem dX6_restore_86 : decode cX6_restore 86 = .ok (.goto (-24), 3) := by decide +kernel
theorem dX6_restore_89 : decode cX6_restore 89 = .ok (.aload_n 0, 1) := by decide +kernel
theorem dX6_restore_90 : decode cX6_restore 90 = .ok (.aload_n 0, 1) := by decide +kernel
theorem dX6_restore_91 : decode cX6_restore 91 = .ok (.getfield 7, 3) := by decide +kernel
theorem dX6_restore_94 : decode cX6_restore 94 = .ok (.iconst 1, 1) := by decide +kernel
theorem dX6_restore_95 : decode cX6_restore 95 = .ok (.iaload, 1) := by decide +kernel
theorem dX6_restore_96 : decode cX6_restore 96 = .ok (.invokevirtual 62, 3) := by decide +kernel
theorem dX6_restore_99 : decode cX6_restore 99 = .ok (.ireturn, 1) := by decide +kernel
theorem dX6_of_0 : decode cX6_of 0 = .ok (.aload_n 0, 1) := by decide +kernel
theorem dX6_of_1 : decode cX6_of 1 = .ok (.getfield 7, 3) := by decide +kernel
theorem dX6_of_4 : decode cX6_of 4 = .ok (.bipush 16, 2) := by decide +kernel
theorem dX6_of_6 : decode cX6_of 6 = .ok (.bipush 6, 2) := by decide +kernel
theorem dX6_of_8 : decode cX6_of 8 = .ok (.iload_n 1, 1) := by decide +kernel
theorem dX6_of_9 : decode cX6_of 9 = .ok (.imul, 1) := by decide +kernel
theorem dX6_of_10 : decode cX6_of 10 = .ok (.iadd, 1) := by decide +kernel
theorem dX6_of_11 : decode cX6_of 11 = .ok (.iload_n 2, 1) := by decide +kernel
theorem dX6_of_12 : decode cX6_of 12 = .ok (.iadd, 1) := by decide +kernel
theorem dX6_of_13 : decode cX6_of 13 = .ok (.iaload, 1) := by decide +kernel
theorem dX6_of_14 : decode cX6_of 14 = .ok (.ireturn, 1) := by decide +kernel
theorem dX6_put_0 : decode cX6_put 0 = .ok (.aload_n 0, 1) := by decide +kernel
theorem dX6_put_1 : decode cX6_put 1 = .ok (.getfield 7, 3) := by decide +kernel
theorem dX6_put_4 : decode cX6_put 4 = .ok (.bipush 16, 2) := by decide +kernel
theorem dX6_put_6 : decode cX6_put 6 = .ok (.bipush 6, 2) := by decide +kernel
theorem dX6_put_8 : decode cX6_put 8 = .ok (.iload_n 1, 1) := by decide +kernel
theorem dX6_put_9 : decode cX6_put 9 = .ok (.imul, 1) := by decide +kernel
theorem dX6_put_10 : decode cX6_put 10 = .ok (.iadd, 1) := by decide +kernel
theorem dX6_put_11 : decode cX6_put 11 = .ok (.iload_n 2, 1) := by decide +kernel
theorem dX6_put_12 : decode cX6_put 12 = .ok (.iadd, 1) := by decide +kernel
theorem dX6_put_13 : decode cX6_put 13 = .ok (.iload_n 3, 1) := by decide +kernel
theorem dX6_put_14 : decode cX6_put 14 = .ok (.iastore, 1) := by decide +kernel
theorem dX6_put_15 : decode cX6_put 15 = .ok (.return_, 1) := by decide +kernel
set_option maxRecDepth 20000 in
theorem ggX6_begins_X6_put : GoodIn wsX6_begins wsX6_put := goodIn_r _ [5, 6, 11, 12, 13, 14, 15, 16, 17, 18, 19, 20, 21, 22, 23] (by decide +kernel) (by decide +kernel)
set_option maxRecDepth 20000 in
theorem gX6_begins_X6_put : GoodIn wsX6_begins (wsV RX6 66 RX6 yX6_put wsX6_put) := goodIn_app (goodIn_of _ (by decide +kernel)) ggX6_begins_X6_put
set_option maxRecDepth 20000 in
theorem ggX6_begins_X6_renew : GoodIn wsX6_begins wsX6_renew := goodIn_r _ [10, 6, 11, 12, 13, 14, 15, 16, 17, 18, 19, 20, 21, 22, 23] (by decide +kernel) (by decide +kernel)
set_option maxRecDepth 20000 in
theorem gX6_begins_X6_renew : GoodIn wsX6_begins (wsV RX6 70 RX6 yX6_renew wsX6_renew) := goodIn_app (goodIn_of _ (by decide +kernel)) ggX6_begins_X6_renew
theorem dX6_begins_0 : decode cX6_begins 0 = .ok (.aload_n 0, 1) := by decide +kernel
theorem dX6_begins_1 : decode cX6_begins 1 = .ok (.iload_n 1, 1) := by decide +kernel
theorem dX6_begins_2 : decode cX6_begins 2 = .ok (.iconst 0, 1) := by decide +kernel
theorem dX6_begins_3 : decode cX6_begins 3 = .ok (.iconst 0, 1) := by decide +kernel
theorem dX6_begins_4 : decode cX6_begins 4 = .ok (.invokevirtual 66, 3) := by decide +kernel
theorem dX6_begins_7 : decode cX6_begins 7 = .ok (.aload_n 0, 1) := by decide +kernel
theorem dX6_begins_8 : decode cX6_begins 8 = .ok (.iload_n 1, 1) := by decide +kernel
theorem dX6_begins_9 : decode cX6_begins 9 = .ok (.iconst 1, 1) := by decide +kernel
theorem dX6_begins_10 : decode cX6_begins 10 = .ok (.bipush 10, 2) := by decide +kernel
theorem dX6_begins_12 : decode cX6_begins 12 = .ok (.invokevirtual 66, 3) := by decide +kernel
theorem dX6_begins_15 : decode cX6_begins 15 = .ok (.aload_n 0, 1) := by decide +kernel
theorem dX6_begins_16 : decode cX6_begins 16 = .ok (.iload_n 1, 1) := by decide +kernel
theorem dX6_begins_17 : decode cX6_begins 17 = .ok (.iconst 2, 1) := by decide +kernel
theorem dX6_begins_18 : decode cX6_begins 18 = .ok (.iconst 1, 1) := by decide +kernel
theorem dX6_begins_19 : decode cX6_begins 19 = .ok (.invokevirtual 66, 3) := by decide +kernel
theorem dX6_begins_22 : decode cX6_begins 22 = .ok (.aload_n 0, 1) := by decide +kernel
theorem dX6_begins_23 : decode cX6_begins 23 = .ok (.iload_n 1, 1) := by decide +kernel
theorem dX6_begins_24 : decode cX6_begins 24 = .ok (.iconst 3, 1) := by decide +kernel
theorem dX6_begins_25 : decode cX6_begins 25 = .ok (.bipush 15, 2) := by decide +kernel
theorem dX6_begins_27 : decode cX6_begins 27 = .ok (.invokevirtual 66, 3) := by decide +kernel
theorem dX6_begins_30 : decode cX6_begins 30 = .ok (.aload_n 0, 1) := by decide +kernel
theorem dX6_begins_31 : decode cX6_begins 31 = .ok (.iload_n 1, 1) := by decide +kernel
theorem dX6_begins_32 : decode cX6_begins 32 = .ok (.iconst 4, 1) := by decide +kernel
theorem dX6_begins_33 : decode cX6_begins 33 = .ok (.iconst 0, 1) := by decide +kernel
theorem dX6_begins_34 : decode cX6_begins 34 = .ok (.invokevirtual 66, 3) := by decide +kernel
theorem dX6_begins_37 : decode cX6_begins 37 = .ok (.aload_n 0, 1) := by decide +kernel
theorem dX6_begins_38 : decode cX6_begins 38 = .ok (.iload_n 1, 1) := by decide +kernel
theorem dX6_begins_39 : decode cX6_begins 39 = .ok (.iconst 5, 1) := by decide +kernel
theorem dX6_begins_40 : decode cX6_begins 40 = .ok (.iconst 0, 1) := by decide +kernel
theorem dX6_begins_41 : decode cX6_begins 41 = .ok (.invokevirtual 66, 3) := by decide +kernel
theorem dX6_begins_44 : decode cX6_begins 44 = .ok (.aload_n 0, 1) := by decide +kernel
theorem dX6_begins_45 : decode cX6_begins 45 = .ok (.iload_n 1, 1) := by decide +kernel
theorem dX6_begins_46 : decode cX6_begins 46 = .ok (.invokevirtual 70, 3) := by decide +kernel
theorem dX6_begins_49 : decode cX6_begins 49 = .ok (.return_, 1) := by decide +kernel
theorem dX6_renew_0 : decode cX6_renew 0 = .ok (.aload_n 0, 1) := by decide +kernel
theorem dX6_renew_1 : decode cX6_renew 1 = .ok (.getfield 7, 3) := by decide +kernel
theorem dX6_renew_4 : decode cX6_renew 4 = .ok (.sipush 192, 3) := by decide +kernel
theorem dX6_renew_7 : decode cX6_renew 7 = .ok (.iload_n 1, 1) := by decide +kernel
theorem dX6_renew_8 : decode cX6_renew 8 = .ok (.iadd, 1) := by decide +kernel
theorem dX6_renew_9 : decode cX6_renew 9 = .ok (.iconst 0, 1) := by decide +kernel
theorem dX6_renew_10 : decode cX6_renew 10 = .ok (.iastore, 1) := by decide +kernel
theorem dX6_renew_11 : decode cX6_renew 11 = .ok (.iconst 0, 1) := by decide +kernel
theorem dX6_renew_12 : decode cX6_renew 12 = .ok (.istore_n 2, 1) := by decide +kernel
theorem dX6_renew_13 : decode cX6_renew 13 = .ok (.iload_n 2, 1) := by decide +kernel
theorem dX6_renew_14 : decode cX6_renew 14 = .ok (.bipush 8, 2) := by decide +kernel
theorem dX6_renew_16 : decode cX6_renew 16 = .ok (.if_icmp .ge 40, 3) := by decide +kernel
theorem dX6_renew_19 : decode cX6_renew 19 = .ok (.aload_n 0, 1) := by decide +kernel
theorem dX6_renew_20 : decode cX6_renew 20 = .ok (.getfield 7, 3) := by decide +kernel
theorem dX6_renew_23 : decode cX6_renew 23 = .ok (.bipush 64, 2) := by decide +kernel
theorem dX6_renew_25 : decode cX6_renew 25 = .ok (.bipush 8, 2) := by decide +kernel
theorem dX6_renew_27 : decode cX6_renew 27 = .ok (.iload_n 1, 1) := by decide +kernel
theorem dX6_renew_28 : decode cX6_renew 28 = .ok (.imul, 1) := by decide +kernel
theorem dX6_renew_29 : decode cX6_renew 29 = .ok (.iadd, 1) := by decide +kernel
theorem dX6_renew_30 : decode cX6_renew 30 = .ok (.iload_n 2, 1) := by decide +kernel
theorem dX6_renew_31 : decode cX6_renew 31 = .ok (.iadd, 1) := by decide +kernel
theorem dX6_renew_32 : decode cX6_renew 32 = .ok (.iconst 0, 1) := by decide +kernel
theorem dX6_renew_33 : decode cX6_renew 33 = .ok (.iastore, 1) := by decide +kernel
theorem dX6_renew_34 : decode cX6_renew 34 = .ok (.aload_n 0, 1) := by decide +kernel
theorem dX6_renew_35 : decode cX6_renew 35 = .ok (.getfield 7, 3) := by decide +kernel
theorem dX6_renew_38 : decode cX6_renew 38 = .ok (.sipush 128, 3) := by decide +kernel
theorem dX6_renew_41 : decode cX6_renew 41 = .ok (.bipush 8, 2) := by decide +kernel
theorem dX6_renew_43 : decode cX6_renew 43 = .ok (.iload_n 1, 1) := by decide +kernel
theorem dX6_renew_44 : decode cX6_renew 44 = .ok (.imul, 1) := by decide +kernel
theorem dX6_renew_45 : decode cX6_renew 45 = .ok (.iadd, 1) := by decide +kernel
theorem dX6_renew_46 : decode cX6_renew 46 = .ok (.iload_n 2, 1) := by decide +kernel
theorem dX6_renew_47 : decode cX6_renew 47 = .ok (.iadd, 1) := by decide +kernel
theorem dX6_renew_48 : decode cX6_renew 48 = .ok (.iconst 0, 1) := by decide +kernel
theorem dX6_renew_49 : decode cX6_renew 49 = .ok (.iastore, 1) := by decide +kernel
theorem dX6_renew_50 : decode cX6_renew 50 = .ok (.iinc 2 1, 3) := by decide +kernel
theorem dX6_renew_53 : decode cX6_renew 53 = .ok (.goto (-40), 3) := by decide +kernel
theorem dX6_renew_56 : decode cX6_renew 56 = .ok (.return_, 1) := by decide +kernel
set_option maxRecDepth 20000 in
theorem ggX6_noDigit_X6_in : GoodIn wsX6_noDigit wsX6_in := goodIn_r _ [5] (by decide +kernel) (by decide +kernel)
set_option maxRecDepth 20000 in
theorem gX6_noDigit_X6_in : GoodIn wsX6_noDigit (va_wsS RX6 55 yX6_in wsX6_in) := goodIn_app (goodIn_of _ (by decide +kernel)) ggX6_noDigit_X6_in
theorem dX6_noDigit_0 : decode cX6_noDigit 0 = .ok (.iload_n 1, 1) := by decide +kernel
theorem dX6_noDigit_1 : decode cX6_noDigit 1 = .ok (.iconst 0, 1) := by decide +kernel
theorem dX6_noDigit_2 : decode cX6_noDigit 2 = .ok (.aload_n 0, 1) := by decide +kernel
theorem dX6_noDigit_3 : decode cX6_noDigit 3 = .ok (.getfield 7, 3) := by decide +kernel
theorem dX6_noDigit_6 : decode cX6_noDigit 6 = .ok (.iconst 0, 1) := by decide +kernel
theorem dX6_noDigit_7 : decode cX6_noDigit 7 = .ok (.iaload, 1) := by decide +kernel
theorem dX6_noDigit_8 : decode cX6_noDigit 8 = .ok (.iconst 1, 1) := by decide +kernel
theorem dX6_noDigit_9 : decode cX6_noDigit 9 = .ok (.isub, 1) := by decide +kernel
theorem dX6_noDigit_10 : decode cX6_noDigit 10 = .ok (.invokestatic 55, 3) := by decide +kernel
theorem dX6_noDigit_13 : decode cX6_noDigit 13 = .ok (.ifCond .ne 7, 3) := by decide +kernel
theorem dX6_noDigit_16 : decode cX6_noDigit 16 = .ok (.iconst 1, 1) := by decide +kernel
theorem dX6_noDigit_17 : decode cX6_noDigit 17 = .ok (.goto 4, 3) := by decide +kernel
theorem dX6_noDigit_20 : decode cX6_noDigit 20 = .ok (.iconst 0, 1) := by decide +kernel
theorem dX6_noDigit_21 : decode cX6_noDigit 21 = .ok (.ireturn, 1) := by decide +kernel
set_option maxRecDepth 20000 in
theorem ggX6_litPart_X6_of : GoodIn wsX6_litPart wsX6_of := goodIn_r _ [5, 6, 7, 8, 9, 10, 11, 12, 13, 14, 15, 16, 17, 18, 19] (by decide +kernel) (by decide +kernel)
set_option maxRecDepth 20000 in
theorem gX6_litPart_X6_of : GoodIn wsX6_litPart (wsV RX6 73 RX6 yX6_of wsX6_of) := goodIn_app (goodIn_of _ (by decide +kernel)) ggX6_litPart_X6_of
theorem dX6_litPart_0 : decode cX6_litPart 0 = .ok (.aload_n 0, 1) := by decide +kernel
theorem dX6_litPart_1 : decode cX6_litPart 1 = .ok (.iload_n 1, 1) := by decide +kernel
theorem dX6_litPart_2 : decode cX6_litPart 2 = .ok (.iconst 1, 1) := by decide +kernel
theorem dX6_litPart_3 : decode cX6_litPart 3 = .ok (.invokevirtual 73, 3) := by decide +kernel
theorem dX6_litPart_6 : decode cX6_litPart 6 = .ok (.aload_n 0, 1) := by decide +kernel
theorem dX6_litPart_7 : decode cX6_litPart 7 = .ok (.iload_n 1, 1) := by decide +kernel
theorem dX6_litPart_8 : decode cX6_litPart 8 = .ok (.iconst 2, 1) := by decide +kernel
theorem dX6_litPart_9 : decode cX6_litPart 9 = .ok (.invokevirtual 73, 3) := by decide +kernel
theorem dX6_litPart_12 : decode cX6_litPart 12 = .ok (.isub, 1) := by decide +kernel
theorem dX6_litPart_13 : decode cX6_litPart 13 = .ok (.aload_n 0, 1) := by decide +kernel
theorem dX6_litPart_14 : decode cX6_litPart 14 = .ok (.iload_n 1, 1) := by decide +kernel
theorem dX6_litPart_15 : decode cX6_litPart 15 = .ok (.iconst 3, 1) := by decide +kernel
theorem dX6_litPart_16 : decode cX6_litPart 16 = .ok (.invokevirtual 73, 3) := by decide +kernel
theorem dX6_litPart_19 : decode cX6_litPart 19 = .ok (.imul, 1) := by decide +kernel
theorem dX6_litPart_20 : decode cX6_litPart 20 = .ok (.bipush 15, 2) := by decide +kernel
theorem dX6_litPart_22 : decode cX6_litPart 22 = .ok (.idiv, 1) := by decide +kernel
theorem dX6_litPart_23 : decode cX6_litPart 23 = .ok (.ireturn, 1) := by decide +kernel
set_option maxRecDepth 20000 in
theorem ggX6_beginOf_X6_of : GoodIn wsX6_beginOf wsX6_of := goodIn_r _ [5, 6, 7, 8, 9, 10, 11, 12, 13, 14, 15, 16, 17, 18, 19] (by decide +kernel) (by decide +kernel)
set_option maxRecDepth 20000 in
theorem gX6_beginOf_X6_of : GoodIn wsX6_beginOf (wsV RX6 73 RX6 yX6_of wsX6_of) := goodIn_app (goodIn_of _ (by decide +kernel)) ggX6_beginOf_X6_of
theorem dX6_beginOf_0 : decode cX6_beginOf 0 = .ok (.iconst 0, 1) := by decide +kernel
theorem dX6_beginOf_1 : decode cX6_beginOf 1 = .ok (.istore_n 2, 1) := by decide +kernel
theorem dX6_beginOf_2 : decode cX6_beginOf 2 = .ok (.iconst 0, 1) := by decide +kernel
theorem dX6_beginOf_3 : decode cX6_beginOf 3 = .ok (.istore_n 3, 1) := by decide +kernel
theorem dX6_beginOf_4 : decode cX6_beginOf 4 = .ok (.iload_n 3, 1) := by decide +kernel
theorem dX6_beginOf_5 : decode cX6_beginOf 5 = .ok (.iload_n 1, 1) := by decide +kernel
theorem dX6_beginOf_6 : decode cX6_beginOf 6 = .ok (.if_icmp .ge 18, 3) := by decide +kernel
theorem dX6_beginOf_9 : decode cX6_beginOf 9 = .ok (.iload_n 2, 1) := by decide +kernel
theorem dX6_beginOf_10 : decode cX6_beginOf 10 = .ok (.aload_n 0, 1) := by decide +kernel
theorem dX6_beginOf_11 : decode cX6_beginOf 11 = .ok (.iload_n 3, 1) := by decide +kernel
theorem dX6_beginOf_12 : decode cX6_beginOf 12 = .ok (.iconst 1, 1) := by decide +kernel
theorem dX6_beginOf_13 : decode cX6_beginOf 13 = .ok (.invokevirtual 73, 3) := by decide +kernel
theorem dX6_beginOf_16 : decode cX6_beginOf 16 = .ok (.iadd, 1) := by decide +kernel
theorem dX6_beginOf_17 : decode cX6_beginOf 17 = .ok (.istore_n 2, 1) := by decide +kernel
theorem dX6_beginOf_18 : decode cX6_beginOf 18 = .ok (.iinc 3 1, 3) := by decide +kernel
theorem dX6_beginOf_21 : decode cX6_beginOf 21 = .ok (.goto (-17), 3) := by decide +kernel
theorem dX6_beginOf_24 : decode cX6_beginOf 24 = .ok (.iload_n 2, 1) := by decide +kernel
theorem dX6_beginOf_25 : decode cX6_beginOf 25 = .ok (.ireturn, 1) := by decide +kernel
set_option maxRecDepth 20000 in
theorem ggX6_frameLength_X6_beginOf : GoodIn wsX6_frameLength wsX6_beginOf := goodIn_r _ [6, 7, 8, 9, 5, 10, 1, 11, 12, 13, 14, 15, 16, 17, 18, 19, 20, 21, 22, 23] (by decide +kernel) (by decide +kernel)
set_option maxRecDepth 20000 in
theorem gX6_frameLength_X6_beginOf : GoodIn wsX6_frameLength (wsV RX6 77 RX6 yX6_beginOf wsX6_beginOf) := goodIn_app (goodIn_of _ (by decide +kernel)) ggX6_frameLength_X6_beginOf
theorem dX6_frameLength_0 : decode cX6_frameLength 0 = .ok (.aload_n 0, 1) := by decide +kernel
theorem dX6_frameLength_1 : decode cX6_frameLength 1 = .ok (.aload_n 0, 1) := by decide +kernel
theorem dX6_frameLength_2 : decode cX6_frameLength 2 = .ok (.getfield 7, 3) := by decide +kernel
theorem dX6_frameLength_5 : decode cX6_frameLength 5 = .ok (.iconst 0, 1) := by decide +kernel
theorem dX6_frameLength_6 : decode cX6_frameLength 6 = .ok (.iaload, 1) := by decide +kernel
theorem dX6_frameLength_7 : decode cX6_frameLength 7 = .ok (.invokevirtual 77, 3) := by decide +kernel
theorem dX6_frameLength_10 : decode cX6_frameLength 10 = .ok (.ireturn, 1) := by decide +kernel
theorem dX6_endFrame_0 : decode cX6_endFrame 0 = .ok (.aload_n 0, 1) := by decide +kernel
theorem dX6_endFrame_1 : decode cX6_endFrame 1 = .ok (.getfield 7, 3) := by decide +kernel
theorem dX6_endFrame_4 : decode cX6_endFrame 4 = .ok (.iconst 2, 1) := by decide +kernel
theorem dX6_endFrame_5 : decode cX6_endFrame 5 = .ok (.dup2, 1) := by decide +kernel
theorem dX6_endFrame_6 : decode cX6_endFrame 6 = .ok (.iaload, 1) := by decide +kernel
theorem dX6_endFrame_7 : decode cX6_endFrame 7 = .ok (.iconst 1, 1) := by decide +kernel
theorem dX6_endFrame_8 : decode cX6_endFrame 8 = .ok (.iadd, 1) := by decide +kernel
theorem dX6_endFrame_9 : decode cX6_endFrame 9 = .ok (.iastore, 1) := by decide +kernel
theorem dX6_endFrame_10 : decode cX6_endFrame 10 = .ok (.aload_n 0, 1) := by decide +kernel
theorem dX6_endFrame_11 : decode cX6_endFrame 11 = .ok (.getfield 7, 3) := by decide +kernel
theorem dX6_endFrame_14 : decode cX6_endFrame 14 = .ok (.iconst 3, 1) := by decide +kernel
theorem dX6_endFrame_15 : decode cX6_endFrame 15 = .ok (.iconst 0, 1) := by decide +kernel
theorem dX6_endFrame_16 : decode cX6_endFrame 16 = .ok (.iastore, 1) := by decide +kernel
theorem dX6_endFrame_17 : decode cX6_endFrame 17 = .ok (.aload_n 0, 1) := by decide +kernel
theorem dX6_endFrame_18 : decode cX6_endFrame 18 = .ok (.getfield 7, 3) := by decide +kernel
theorem dX6_endFrame_21 : decode cX6_endFrame 21 = .ok (.iconst 4, 1) := by decide +kernel
theorem dX6_endFrame_22 : decode cX6_endFrame 22 = .ok (.dup2, 1) := by decide +kernel
theorem dX6_endFrame_23 : decode cX6_endFrame 23 = .ok (.iaload, 1) := by decide +kernel
theorem dX6_endFrame_24 : decode cX6_endFrame 24 = .ok (.aload_n 0, 1) := by decide +kernel
theorem dX6_endFrame_25 : decode cX6_endFrame 25 = .ok (.getfield 7, 3) := by decide +kernel
theorem dX6_endFrame_28 : decode cX6_endFrame 28 = .ok (.iconst 4, 1) := by decide +kernel
theorem dX6_endFrame_29 : decode cX6_endFrame 29 = .ok (.iaload, 1) := by decide +kernel
theorem dX6_endFrame_30 : decode cX6_endFrame 30 = .ok (.ifCond .le 7, 3) := by decide +kernel
theorem dX6_endFrame_33 : decode cX6_endFrame 33 = .ok (.iconst 1, 1) := by decide +kernel
theorem dX6_endFrame_34 : decode cX6_endFrame 34 = .ok (.goto 4, 3) := by decide +kernel
theorem dX6_endFrame_37 : decode cX6_endFrame 37 = .ok (.iconst 0, 1) := by decide +kernel
theorem dX6_endFrame_38 : decode cX6_endFrame 38 = .ok (.isub, 1) := by decide +kernel
theorem dX6_endFrame_39 : decode cX6_endFrame 39 = .ok (.iastore, 1) := by decide +kernel
theorem dX6_endFrame_40 : decode cX6_endFrame 40 = .ok (.return_, 1) := by decide +kernel
set_option maxRecDepth 20000 in
theorem ggX6_setDigits_X6_in : GoodIn wsX6_setDigits wsX6_in := goodIn_r _ [5] (by decide +kernel) (by decide +kernel)
set_option maxRecDepth 20000 in
theorem gX6_setDigits_X6_in : GoodIn wsX6_setDigits (va_wsS RX6 55 yX6_in wsX6_in) := goodIn_app (goodIn_of _ (by decide +kernel)) ggX6_setDigits_X6_in
set_option maxRecDepth 20000 in
theorem ggX6_setDigits_X6_begin : GoodIn wsX6_setDigits wsX6_begin := goodIn_r _ [9, 10, 1, 11, 12, 36, 37, 38, 39, 40, 41, 42, 43, 44, 45, 46, 47, 48] (by decide +kernel) (by decide +kernel)
set_option maxRecDepth 20000 in
theorem gX6_setDigits_X6_begin : GoodIn wsX6_setDigits (wsV RX6 59 RX6 yX6_begin wsX6_begin) := goodIn_app (goodIn_of _ (by decide +kernel)) ggX6_setDigits_X6_begin
set_option maxRecDepth 20000 in
theorem ggX6_setDigits_X6_begins : GoodIn wsX6_setDigits wsX6_begins := goodIn_r _ [16, 17, 18, 19, 4, 20, 1, 21, 22, 23, 24, 36, 37, 38, 39, 40, 41, 42, 43, 44, 45, 46, 47, 48] (by decide +kernel) (by decide +kernel)
set_option maxRecDepth 20000 in
theorem gX6_setDigits_X6_begins : GoodIn wsX6_setDigits (wsV RX6 47 RX6 yX6_begins wsX6_begins) := goodIn_app (goodIn_of _ (by decide +kernel)) ggX6_setDigits_X6_begins
set_option maxRecDepth 20000 in
theorem ggX6_setDigits_X6_endFrame : GoodIn wsX6_setDigits wsX6_endFrame := goodIn_r _ [28, 1, 36, 37, 38, 39, 40, 41, 42, 43, 44, 45, 46, 47, 48] (by decide +kernel) (by decide +kernel)
set_option maxRecDepth 20000 in
theorem gX6_setDigits_X6_endFrame : GoodIn wsX6_setDigits (wsV RX6 80 RX6 yX6_endFrame wsX6_endFrame) := goodIn_app (goodIn_of _ (by decide +kernel)) ggX6_setDigits_X6_endFrame
set_option maxRecDepth 20000 in
theorem ggX6_setDigits_X6_done : GoodIn wsX6_setDigits wsX6_done := goodIn_r _ [32, 33, 34, 35, 10, 11, 36, 37, 38, 39, 40, 41, 42, 43, 44, 45, 46, 47, 48] (by decide +kernel) (by decide +kernel)
set_option maxRecDepth 20000 in
theorem gX6_setDigits_X6_done : GoodIn wsX6_setDigits (wsV RX6 62 RX6 yX6_done wsX6_done) := goodIn_app (goodIn_of _ (by decide +kernel)) ggX6_setDigits_X6_done
theorem dX6_setDigits_0 : decode cX6_setDigits 0 = .ok (.iload_n 1, 1) := by decide +kernel
theorem dX6_setDigits_1 : decode cX6_setDigits 1 = .ok (.iconst 1, 1) := by decide +kernel
theorem dX6_setDigits_2 : decode cX6_setDigits 2 = .ok (.bipush 8, 2) := by decide +kernel
theorem dX6_setDigits_4 : decode cX6_setDigits 4 = .ok (.invokestatic 55, 3) := by decide +kernel
theorem dX6_setDigits_7 : decode cX6_setDigits 7 = .ok (.ifCond .ne 6, 3) := by decide +kernel
theorem dX6_setDigits_10 : decode cX6_setDigits 10 = .ok (.bipush (-2), 2) := by decide +kernel
theorem dX6_setDigits_12 : decode cX6_setDigits 12 = .ok (.ireturn, 1) := by decide +kernel
theorem dX6_setDigits_13 : decode cX6_setDigits 13 = .ok (.aload_n 0, 1) := by decide +kernel
theorem dX6_setDigits_14 : decode cX6_setDigits 14 = .ok (.invokevirtual 59, 3) := by decide +kernel
theorem dX6_setDigits_17 : decode cX6_setDigits 17 = .ok (.aload_n 0, 1) := by decide +kernel
theorem dX6_setDigits_18 : decode cX6_setDigits 18 = .ok (.getfield 7, 3) := by decide +kernel
theorem dX6_setDigits_21 : decode cX6_setDigits 21 = .ok (.iconst 0, 1) := by decide +kernel
theorem dX6_setDigits_22 : decode cX6_setDigits 22 = .ok (.iaload, 1) := by decide +kernel
theorem dX6_setDigits_23 : decode cX6_setDigits 23 = .ok (.istore_n 2, 1) := by decide +kernel
theorem dX6_setDigits_24 : decode cX6_setDigits 24 = .ok (.iload_n 2, 1) := by decide +kernel
theorem dX6_setDigits_25 : decode cX6_setDigits 25 = .ok (.istore_n 3, 1) := by decide +kernel
theorem dX6_setDigits_26 : decode cX6_setDigits 26 = .ok (.iload_n 3, 1) := by decide +kernel
theorem dX6_setDigits_27 : decode cX6_setDigits 27 = .ok (.iload_n 1, 1) := by decide +kernel
theorem dX6_setDigits_28 : decode cX6_setDigits 28 = .ok (.if_icmp .ge 14, 3) := by decide +kernel
theorem dX6_setDigits_31 : decode cX6_setDigits 31 = .ok (.aload_n 0, 1) := by decide +kernel
theorem dX6_setDigits_32 : decode cX6_setDigits 32 = .ok (.iload_n 3, 1) := by decide +kernel
theorem dX6_setDigits_33 : decode cX6_setDigits 33 = .ok (.invokevirtual 47, 3) := by decide +kernel
theorem dX6_setDigits_36 : decode cX6_setDigits 36 = .ok (.iinc 3 1, 3) := by decide +kernel
theorem dX6_setDigits_39 : decode cX6_setDigits 39 = .ok (.goto (-13), 3) := by decide +kernel
theorem dX6_setDigits_42 : decode cX6_setDigits 42 = .ok (.aload_n 0, 1) := by decide +kernel
theorem dX6_setDigits_43 : decode cX6_setDigits 43 = .ok (.getfield 7, 3) := by decide +kernel
theorem dX6_setDigits_46 : decode cX6_setDigits 46 = .ok (.iconst 0, 1) := by decide +kernel
theorem dX6_setDigits_47 : decode cX6_setDigits 47 = .ok (.iload_n 1, 1) := by decide +kernel
theorem dX6_setDigits_48 : decode cX6_setDigits 48 = .ok (.iastore, 1) := by decide +kernel
theorem dX6_setDigits_49 : decode cX6_setDigits 49 = .ok (.iload_n 2, 1) := by decide +kernel
theorem dX6_setDigits_50 : decode cX6_setDigits 50 = .ok (.iload_n 1, 1) := by decide +kernel
theorem dX6_setDigits_51 : decode cX6_setDigits 51 = .ok (.if_icmp .eq 7, 3) := by decide +kernel
theorem dX6_setDigits_54 : decode cX6_setDigits 54 = .ok (.aload_n 0, 1) := by decide +kernel
theorem dX6_setDigits_55 : decode cX6_setDigits 55 = .ok (.invokevirtual 80, 3) := by decide +kernel
theorem dX6_setDigits_58 : decode cX6_setDigits 58 = .ok (.aload_n 0, 1) := by decide +kernel
theorem dX6_setDigits_59 : decode cX6_setDigits 59 = .ok (.iload_n 2, 1) := by decide +kernel
theorem dX6_setDigits_60 : decode cX6_setDigits 60 = .ok (.invokevirtual 62, 3) := by decide +kernel
theorem dX6_setDigits_63 : decode cX6_setDigits 63 = .ok (.ireturn, 1) := by decide +kernel
set_option maxRecDepth 20000 in
theorem ggX6_setWidth_X6_noDigit : GoodIn wsX6_setWidth wsX6_noDigit := goodIn_r _ [5, 6, 7, 8, 4, 9, 44, 45, 46, 47, 48, 49, 50, 51, 52, 53, 54, 55, 56] (by decide +kernel) (by decide +kernel)
set_option maxRecDepth 20000 in
theorem gX6_setWidth_X6_noDigit : GoodIn wsX6_setWidth (wsV RX6 83 RX6 yX6_noDigit wsX6_noDigit) := goodIn_app (goodIn_of _ (by decide +kernel)) ggX6_setWidth_X6_noDigit
set_option maxRecDepth 20000 in
theorem ggX6_setWidth_X6_in : GoodIn wsX6_setWidth wsX6_in := goodIn_r _ [9] (by decide +kernel) (by decide +kernel)
set_option maxRecDepth 20000 in
theorem gX6_setWidth_X6_in : GoodIn wsX6_setWidth (va_wsS RX6 55 yX6_in wsX6_in) := goodIn_app (goodIn_of _ (by decide +kernel)) ggX6_setWidth_X6_in
set_option maxRecDepth 20000 in
theorem ggX6_setWidth_X6_begin : GoodIn wsX6_setWidth wsX6_begin := goodIn_r _ [13, 14, 6, 15, 16, 44, 45, 46, 47, 48, 49, 50, 51, 52, 53, 54, 55, 56] (by decide +kernel) (by decide +kernel)
set_option maxRecDepth 20000 in
theorem gX6_setWidth_X6_begin : GoodIn wsX6_setWidth (wsV RX6 59 RX6 yX6_begin wsX6_begin) := goodIn_app (goodIn_of _ (by decide +kernel)) ggX6_setWidth_X6_begin
set_option maxRecDepth 20000 in
theorem ggX6_setWidth_X6_of : GoodIn wsX6_setWidth wsX6_of := goodIn_r _ [20, 6, 44, 45, 46, 47, 48, 49, 50, 51, 52, 53, 54, 55, 56] (by decide +kernel) (by decide +kernel)
set_option maxRecDepth 20000 in
theorem gX6_setWidth_X6_of : GoodIn wsX6_setWidth (wsV RX6 73 RX6 yX6_of wsX6_of) := goodIn_app (goodIn_of _ (by decide +kernel)) ggX6_setWidth_X6_of
set_option maxRecDepth 20000 in
theorem ggX6_setWidth_X6_put : GoodIn wsX6_setWidth wsX6_put := goodIn_r _ [24, 6, 44, 45, 46, 47, 48, 49, 50, 51, 52, 53, 54, 55, 56] (by decide +kernel) (by decide +kernel)
set_option maxRecDepth 20000 in
theorem gX6_setWidth_X6_put : GoodIn wsX6_setWidth (wsV RX6 66 RX6 yX6_put wsX6_put) := goodIn_app (goodIn_of _ (by decide +kernel)) ggX6_setWidth_X6_put
set_option maxRecDepth 20000 in
theorem ggX6_setWidth_X6_endFrame : GoodIn wsX6_setWidth wsX6_endFrame := goodIn_r _ [28, 6, 44, 45, 46, 47, 48, 49, 50, 51, 52, 53, 54, 55, 56] (by decide +kernel) (by decide +kernel)
set_option maxRecDepth 20000 in
theorem gX6_setWidth_X6_endFrame : GoodIn wsX6_setWidth (wsV RX6 80 RX6 yX6_endFrame wsX6_endFrame) := goodIn_app (goodIn_of _ (by decide +kernel)) ggX6_setWidth_X6_endFrame
set_option maxRecDepth 20000 in
theorem ggX6_setWidth_X6_frameLength : GoodIn wsX6_setWidth wsX6_frameLength := goodIn_r _ [32, 6, 33, 34, 35, 4, 36, 17, 18, 19, 20, 44, 45, 46, 47, 48, 49, 50, 51, 52, 53, 54, 55, 56] (by decide +kernel) (by decide +kernel)
set_option maxRecDepth 20000 in
theorem gX6_setWidth_X6_frameLength : GoodIn wsX6_setWidth (wsV RX6 87 RX6 yX6_frameLength wsX6_frameLength) := goodIn_app (goodIn_of _ (by decide +kernel)) ggX6_setWidth_X6_frameLength
set_option maxRecDepth 20000 in
theorem ggX6_setWidth_X6_done : GoodIn wsX6_setWidth wsX6_done := goodIn_r _ [40, 41, 42, 43, 14, 15, 44, 45, 46, 47, 48, 49, 50, 51, 52, 53, 54, 55, 56] (by decide +kernel) (by decide +kernel)
set_option maxRecDepth 20000 in
theorem gX6_setWidth_X6_done : GoodIn wsX6_setWidth (wsV RX6 62 RX6 yX6_done wsX6_done) := goodIn_app (goodIn_of _ (by decide +kernel)) ggX6_setWidth_X6_done
theorem dX6_setWidth_0 : decode cX6_setWidth 0 = .ok (.aload_n 0, 1) := by decide +kernel
theorem dX6_setWidth_1 : decode cX6_setWidth 1 = .ok (.iload_n 1, 1) := by decide +kernel
theorem dX6_setWidth_2 : decode cX6_setWidth 2 = .ok (.invokevirtual 83, 3) := by decide +kernel
theorem dX6_setWidth_5 : decode cX6_setWidth 5 = .ok (.ifCond .eq 5, 3) := by decide +kernel
theorem dX6_setWidth_8 : decode cX6_setWidth 8 = .ok (.iconst (-1), 1) := by decide +kernel
theorem dX6_setWidth_9 : decode cX6_setWidth 9 = .ok (.ireturn, 1) := by decide +kernel
theorem dX6_setWidth_10 : decode cX6_setWidth 10 = .ok (.iload_n 2, 1) := by decide +kernel
theorem dX6_setWidth_11 : decode cX6_setWidth 11 = .ok (.iconst 4, 1) := by decide +kernel
theorem dX6_setWidth_12 : decode cX6_setWidth 12 = .ok (.bipush 40, 2) := by decide +kernel
theorem dX6_setWidth_14 : decode cX6_setWidth 14 = .ok (.invokestatic 55, 3) := by decide +kernel
theorem dX6_setWidth_17 : decode cX6_setWidth 17 = .ok (.ifCond .ne 6, 3) := by decide +kernel
theorem dX6_setWidth_20 : decode cX6_setWidth 20 = .ok (.bipush (-2), 2) := by decide +kernel
theorem dX6_setWidth_22 : decode cX6_setWidth 22 = .ok (.ireturn, 1) := by decide +kernel
theorem dX6_setWidth_23 : decode cX6_setWidth 23 = .ok (.aload_n 0, 1) := by decide +kernel
theorem dX6_setWidth_24 : decode cX6_setWidth 24 = .ok (.invokevirtual 59, 3) := by decide +kernel
theorem dX6_setWidth_27 : decode cX6_setWidth 27 = .ok (.aload_n 0, 1) := by decide +kernel
theorem dX6_setWidth_28 : decode cX6_setWidth 28 = .ok (.iload_n 1, 1) := by decide +kernel
theorem dX6_setWidth_29 : decode cX6_setWidth 29 = .ok (.iconst 1, 1) := by decide +kernel
theorem dX6_setWidth_30 : decode cX6_setWidth 30 = .ok (.invokevirtual 73, 3) := by decide +kernel
theorem dX6_setWidth_33 : decode cX6_setWidth 33 = .ok (.iload_n 2, 1) := by decide +kernel
theorem dX6_setWidth_34 : decode cX6_setWidth 34 = .ok (.if_icmp .eq 7, 3) := by decide +kernel
theorem dX6_setWidth_37 : decode cX6_setWidth 37 = .ok (.iconst 1, 1) := by decide +kernel
theorem dX6_setWidth_38 : decode cX6_setWidth 38 = .ok (.goto 4, 3) := by decide +kernel
theorem dX6_setWidth_41 : decode cX6_setWidth 41 = .ok (.iconst 0, 1) := by decide +kernel
theorem dX6_setWidth_42 : decode cX6_setWidth 42 = .ok (.istore_n 3, 1) := by decide +kernel
theorem dX6_setWidth_43 : decode cX6_setWidth 43 = .ok (.aload_n 0, 1) := by decide +kernel
theorem dX6_setWidth_44 : decode cX6_setWidth 44 = .ok (.iload_n 1, 1) := by decide +kernel
theorem dX6_setWidth_45 : decode cX6_setWidth 45 = .ok (.iconst 1, 1) := by decide +kernel
theorem dX6_setWidth_46 : decode cX6_setWidth 46 = .ok (.iload_n 2, 1) := by decide +kernel
theorem dX6_setWidth_47 : decode cX6_setWidth 47 = .ok (.invokevirtual 66, 3) := by decide +kernel
theorem dX6_setWidth_50 : decode cX6_setWidth 50 = .ok (.iload_n 3, 1) := by decide +kernel
theorem dX6_setWidth_51 : decode cX6_setWidth 51 = .ok (.ifCond .eq 7, 3) := by decide +kernel
theorem dX6_setWidth_54 : decode cX6_setWidth 54 = .ok (.aload_n 0, 1) := by decide +kernel
theorem dX6_setWidth_55 : decode cX6_setWidth 55 = .ok (.invokevirtual 80, 3) := by decide +kernel
theorem dX6_setWidth_58 : decode cX6_setWidth 58 = .ok (.aload_n 0, 1) := by decide +kernel
theorem dX6_setWidth_59 : decode cX6_setWidth 59 = .ok (.aload_n 0, 1) := by decide +kernel
theorem dX6_setWidth_60 : decode cX6_setWidth 60 = .ok (.invokevirtual 87, 3) := by decide +kernel
theorem dX6_setWidth_63 : decode cX6_setWidth 63 = .ok (.invokevirtual 62, 3) := by decide +kernel
theorem dX6_setWidth_66 : decode cX6_setWidth 66 = .ok (.ireturn, 1) := by decide +kernel
set_option maxRecDepth 20000 in
theorem ggX6_setGuard_X6_noDigit : GoodIn wsX6_setGuard wsX6_noDigit := goodIn_r _ [5, 6, 7, 8, 4, 9, 36, 37, 38, 39, 40, 41, 42, 43, 44, 45, 46, 47, 48] (by decide +kernel) (by decide +kernel)
set_option maxRecDepth 20000 in
theorem gX6_setGuard_X6_noDigit : GoodIn wsX6_setGuard (wsV RX6 83 RX6 yX6_noDigit wsX6_noDigit) := goodIn_app (goodIn_of _ (by decide +kernel)) ggX6_setGuard_X6_noDigit
set_option maxRecDepth 20000 in
theorem ggX6_setGuard_X6_in : GoodIn wsX6_setGuard wsX6_in := goodIn_r _ [9] (by decide +kernel) (by decide +kernel)
set_option maxRecDepth 20000 in
theorem gX6_setGuard_X6_in : GoodIn wsX6_setGuard (va_wsS RX6 55 yX6_in wsX6_in) := goodIn_app (goodIn_of _ (by decide +kernel)) ggX6_setGuard_X6_in
set_option maxRecDepth 20000 in
theorem ggX6_setGuard_X6_begin : GoodIn wsX6_setGuard wsX6_begin := goodIn_r _ [13, 14, 6, 15, 16, 36, 37, 38, 39, 40, 41, 42, 43, 44, 45, 46, 47, 48] (by decide +kernel) (by decide +kernel)
set_option maxRecDepth 20000 in
theorem gX6_setGuard_X6_begin : GoodIn wsX6_setGuard (wsV RX6 59 RX6 yX6_begin wsX6_begin) := goodIn_app (goodIn_of _ (by decide +kernel)) ggX6_setGuard_X6_begin
set_option maxRecDepth 20000 in
theorem ggX6_setGuard_X6_put : GoodIn wsX6_setGuard wsX6_put := goodIn_r _ [20, 6, 36, 37, 38, 39, 40, 41, 42, 43, 44, 45, 46, 47, 48] (by decide +kernel) (by decide +kernel)
set_option maxRecDepth 20000 in
theorem gX6_setGuard_X6_put : GoodIn wsX6_setGuard (wsV RX6 66 RX6 yX6_put wsX6_put) := goodIn_app (goodIn_of _ (by decide +kernel)) ggX6_setGuard_X6_put
set_option maxRecDepth 20000 in
theorem ggX6_setGuard_X6_litPart : GoodIn wsX6_setGuard wsX6_litPart := goodIn_r _ [24, 25, 26, 27, 4, 28, 6, 36, 37, 38, 39, 40, 41, 42, 43, 44, 45, 46, 47, 48] (by decide +kernel) (by decide +kernel)
set_option maxRecDepth 20000 in
theorem gX6_setGuard_X6_litPart : GoodIn wsX6_setGuard (wsV RX6 91 RX6 yX6_litPart wsX6_litPart) := goodIn_app (goodIn_of _ (by decide +kernel)) ggX6_setGuard_X6_litPart
set_option maxRecDepth 20000 in
theorem ggX6_setGuard_X6_done : GoodIn wsX6_setGuard wsX6_done := goodIn_r _ [32, 33, 34, 35, 14, 15, 36, 37, 38, 39, 40, 41, 42, 43, 44, 45, 46, 47, 48] (by decide +kernel) (by decide +kernel)
set_option maxRecDepth 20000 in
theorem gX6_setGuard_X6_done : GoodIn wsX6_setGuard (wsV RX6 62 RX6 yX6_done wsX6_done) := goodIn_app (goodIn_of _ (by decide +kernel)) ggX6_setGuard_X6_done
theorem dX6_setGuard_0 : decode cX6_setGuard 0 = .ok (.aload_n 0, 1) := by decide +kernel
theorem dX6_setGuard_1 : decode cX6_setGuard 1 = .ok (.iload_n 1, 1) := by decide +kernel
theorem dX6_setGuard_2 : decode cX6_setGuard 2 = .ok (.invokevirtual 83, 3) := by decide +kernel
theorem dX6_setGuard_5 : decode cX6_setGuard 5 = .ok (.ifCond .eq 5, 3) := by decide +kernel
theorem dX6_setGuard_8 : decode cX6_setGuard 8 = .ok (.iconst (-1), 1) := by decide +kernel
theorem dX6_setGuard_9 : decode cX6_setGuard 9 = .ok (.ireturn, 1) := by decide +kernel
theorem dX6_setGuard_10 : decode cX6_setGuard 10 = .ok (.iload_n 2, 1) := by decide +kernel
theorem dX6_setGuard_11 : decode cX6_setGuard 11 = .ok (.iconst 0, 1) := by decide +kernel
theorem dX6_setGuard_12 : decode cX6_setGuard 12 = .ok (.iconst 3, 1) := by decide +kernel
theorem dX6_setGuard_13 : decode cX6_setGuard 13 = .ok (.invokestatic 55, 3) := by decide +kernel
theorem dX6_setGuard_16 : decode cX6_setGuard 16 = .ok (.ifCond .ne 6, 3) := by decide +kernel
theorem dX6_setGuard_19 : decode cX6_setGuard 19 = .ok (.bipush (-2), 2) := by decide +kernel
theorem dX6_setGuard_21 : decode cX6_setGuard 21 = .ok (.ireturn, 1) := by decide +kernel
theorem dX6_setGuard_22 : decode cX6_setGuard 22 = .ok (.aload_n 0, 1) := by decide +kernel
theorem dX6_setGuard_23 : decode cX6_setGuard 23 = .ok (.invokevirtual 59, 3) := by decide +kernel
theorem dX6_setGuard_26 : decode cX6_setGuard 26 = .ok (.aload_n 0, 1) := by decide +kernel
theorem dX6_setGuard_27 : decode cX6_setGuard 27 = .ok (.iload_n 1, 1) := by decide +kernel
theorem dX6_setGuard_28 : decode cX6_setGuard 28 = .ok (.iconst 2, 1) := by decide +kernel
theorem dX6_setGuard_29 : decode cX6_setGuard 29 = .ok (.iload_n 2, 1) := by decide +kernel
theorem dX6_setGuard_30 : decode cX6_setGuard 30 = .ok (.invokevirtual 66, 3) := by decide +kernel
theorem dX6_setGuard_33 : decode cX6_setGuard 33 = .ok (.aload_n 0, 1) := by decide +kernel
theorem dX6_setGuard_34 : decode cX6_setGuard 34 = .ok (.aload_n 0, 1) := by decide +kernel
theorem dX6_setGuard_35 : decode cX6_setGuard 35 = .ok (.iload_n 1, 1) := by decide +kernel
theorem dX6_setGuard_36 : decode cX6_setGuard 36 = .ok (.invokevirtual 91, 3) := by decide +kernel
theorem dX6_setGuard_39 : decode cX6_setGuard 39 = .ok (.invokevirtual 62, 3) := by decide +kernel
theorem dX6_setGuard_42 : decode cX6_setGuard 42 = .ok (.ireturn, 1) := by decide +kernel
set_option maxRecDepth 20000 in
theorem ggX6_setBrightness_X6_noDigit : GoodIn wsX6_setBrightness wsX6_noDigit := goodIn_r _ [5, 6, 7, 8, 4, 9, 36, 37, 38, 39, 40, 41, 42, 43, 44, 45, 46, 47, 48] (by decide +kernel) (by decide +kernel)
set_option maxRecDepth 20000 in
theorem gX6_setBrightness_X6_noDigit : GoodIn wsX6_setBrightness (wsV RX6 83 RX6 yX6_noDigit wsX6_noDigit) := goodIn_app (goodIn_of _ (by decide +kernel)) ggX6_setBrightness_X6_noDigit
set_option maxRecDepth 20000 in
theorem ggX6_setBrightness_X6_in : GoodIn wsX6_setBrightness wsX6_in := goodIn_r _ [9] (by decide +kernel) (by decide +kernel)
set_option maxRecDepth 20000 in
theorem gX6_setBrightness_X6_in : GoodIn wsX6_setBrightness (va_wsS RX6 55 yX6_in wsX6_in) := goodIn_app (goodIn_of _ (by decide +kernel)) ggX6_setBrightness_X6_in
set_option maxRecDepth 20000 in
theorem ggX6_setBrightness_X6_begin : GoodIn wsX6_setBrightness wsX6_begin := goodIn_r _ [13, 14, 6, 15, 16, 36, 37, 38, 39, 40, 41, 42, 43, 44, 45, 46, 47, 48] (by decide +kernel) (by decide +kernel)
set_option maxRecDepth 20000 in
theorem gX6_setBrightness_X6_begin : GoodIn wsX6_setBrightness (wsV RX6 59 RX6 yX6_begin wsX6_begin) := goodIn_app (goodIn_of _ (by decide +kernel)) ggX6_setBrightness_X6_begin
set_option maxRecDepth 20000 in
theorem ggX6_setBrightness_X6_put : GoodIn wsX6_setBrightness wsX6_put := goodIn_r _ [20, 6, 36, 37, 38, 39, 40, 41, 42, 43, 44, 45, 46, 47, 48] (by decide +kernel) (by decide +kernel)
set_option maxRecDepth 20000 in
theorem gX6_setBrightness_X6_put : GoodIn wsX6_setBrightness (wsV RX6 66 RX6 yX6_put wsX6_put) := goodIn_app (goodIn_of _ (by decide +kernel)) ggX6_setBrightness_X6_put
set_option maxRecDepth 20000 in
theorem ggX6_setBrightness_X6_litPart : GoodIn wsX6_setBrightness wsX6_litPart := goodIn_r _ [24, 25, 26, 27, 4, 28, 6, 36, 37, 38, 39, 40, 41, 42, 43, 44, 45, 46, 47, 48] (by decide +kernel) (by decide +kernel)
set_option maxRecDepth 20000 in
theorem gX6_setBrightness_X6_litPart : GoodIn wsX6_setBrightness (wsV RX6 91 RX6 yX6_litPart wsX6_litPart) := goodIn_app (goodIn_of _ (by decide +kernel)) ggX6_setBrightness_X6_litPart
set_option maxRecDepth 20000 in
theorem ggX6_setBrightness_X6_done : GoodIn wsX6_setBrightness wsX6_done := goodIn_r _ [32, 33, 34, 35, 14, 15, 36, 37, 38, 39, 40, 41, 42, 43, 44, 45, 46, 47, 48] (by decide +kernel) (by decide +kernel)
set_option maxRecDepth 20000 in
theorem gX6_setBrightness_X6_done : GoodIn wsX6_setBrightness (wsV RX6 62 RX6 yX6_done wsX6_done) := goodIn_app (goodIn_of _ (by decide +kernel)) ggX6_setBrightness_X6_done
theorem dX6_setBrightness_0 : decode cX6_setBrightness 0 = .ok (.aload_n 0, 1) := by decide +kernel
theorem dX6_setBrightness_1 : decode cX6_setBrightness 1 = .ok (.iload_n 1, 1) := by decide +kernel
theorem dX6_setBrightness_2 : decode cX6_setBrightness 2 = .ok (.invokevirtual 83, 3) := by decide +kernel
theorem dX6_setBrightness_5 : decode cX6_setBrightness 5 = .ok (.ifCond .eq 5, 3) := by decide +kernel
theorem dX6_setBrightness_8 : decode cX6_setBrightness 8 = .ok (.iconst (-1), 1) := by decide +kernel
theorem dX6_setBrightness_9 : decode cX6_setBrightness 9 = .ok (.ireturn, 1) := by decide +kernel
theorem dX6_setBrightness_10 : decode cX6_setBrightness 10 = .ok (.iload_n 2, 1) := by decide +kernel
theorem dX6_setBrightness_11 : decode cX6_setBrightness 11 = .ok (.iconst 0, 1) := by decide +kernel
theorem dX6_setBrightness_12 : decode cX6_setBrightness 12 = .ok (.bipush 15, 2) := by decide +kernel
theorem dX6_setBrightness_14 : decode cX6_setBrightness 14 = .ok (.invokestatic 55, 3) := by decide +kernel
theorem dX6_setBrightness_17 : decode cX6_setBrightness 17 = .ok (.ifCond .ne 6, 3) := by decide +kernel
theorem dX6_setBrightness_20 : decode cX6_setBrightness 20 = .ok (.bipush (-2), 2) := by decide +kernel
theorem dX6_setBrightness_22 : decode cX6_setBrightness 22 = .ok (.ireturn, 1) := by decide +kernel
theorem dX6_setBrightness_23 : decode cX6_setBrightness 23 = .ok (.aload_n 0, 1) := by decide +kernel
theorem dX6_setBrightness_24 : decode cX6_setBrightness 24 = .ok (.invokevirtual 59, 3) := by decide +kernel
theorem dX6_setBrightness_27 : decode cX6_setBrightness 27 = .ok (.aload_n 0, 1) := by decide +kernel
theorem dX6_setBrightness_28 : decode cX6_setBrightness 28 = .ok (.iload_n 1, 1) := by decide +kernel
theorem dX6_setBrightness_29 : decode cX6_setBrightness 29 = .ok (.iconst 3, 1) := by decide +kernel
theorem dX6_setBrightness_30 : decode cX6_setBrightness 30 = .ok (.iload_n 2, 1) := by decide +kernel
theorem dX6_setBrightness_31 : decode cX6_setBrightness 31 = .ok (.invokevirtual 66, 3) := by decide +kernel
theorem dX6_setBrightness_34 : decode cX6_setBrightness 34 = .ok (.aload_n 0, 1) := by decide +kernel
theorem dX6_setBrightness_35 : decode cX6_setBrightness 35 = .ok (.aload_n 0, 1) := by decide +kernel
theorem dX6_setBrightness_36 : decode cX6_setBrightness 36 = .ok (.iload_n 1, 1) := by decide +kernel
theorem dX6_setBrightness_37 : decode cX6_setBrightness 37 = .ok (.invokevirtual 91, 3) := by decide +kernel
theorem dX6_setBrightness_40 : decode cX6_setBrightness 40 = .ok (.invokevirtual 62, 3) := by decide +kernel
theorem dX6_setBrightness_43 : decode cX6_setBrightness 43 = .ok (.ireturn, 1) := by decide +kernel
set_option maxRecDepth 20000 in
theorem ggX6_setPattern_X6_noDigit : GoodIn wsX6_setPattern wsX6_noDigit := goodIn_r _ [5, 6, 7, 8, 4, 9, 32, 33, 34, 35, 36, 37, 38, 39, 40, 41, 42, 43, 44] (by decide +kernel) (by decide +kernel)
set_option maxRecDepth 20000 in
theorem gX6_setPattern_X6_noDigit : GoodIn wsX6_setPattern (wsV RX6 83 RX6 yX6_noDigit wsX6_noDigit) := goodIn_app (goodIn_of _ (by decide +kernel)) ggX6_setPattern_X6_noDigit
set_option maxRecDepth 20000 in
theorem ggX6_setPattern_X6_in : GoodIn wsX6_setPattern wsX6_in := goodIn_r _ [9] (by decide +kernel) (by decide +kernel)
set_option maxRecDepth 20000 in
theorem gX6_setPattern_X6_in : GoodIn wsX6_setPattern (va_wsS RX6 55 yX6_in wsX6_in) := goodIn_app (goodIn_of _ (by decide +kernel)) ggX6_setPattern_X6_in
set_option maxRecDepth 20000 in
theorem ggX6_setPattern_X6_begin : GoodIn wsX6_setPattern wsX6_begin := goodIn_r _ [13, 14, 6, 15, 16, 32, 33, 34, 35, 36, 37, 38, 39, 40, 41, 42, 43, 44] (by decide +kernel) (by decide +kernel)
set_option maxRecDepth 20000 in
theorem gX6_setPattern_X6_begin : GoodIn wsX6_setPattern (wsV RX6 59 RX6 yX6_begin wsX6_begin) := goodIn_app (goodIn_of _ (by decide +kernel)) ggX6_setPattern_X6_begin
set_option maxRecDepth 20000 in
theorem ggX6_setPattern_X6_of : GoodIn wsX6_setPattern wsX6_of := goodIn_r _ [20, 6, 32, 33, 34, 35, 36, 37, 38, 39, 40, 41, 42, 43, 44] (by decide +kernel) (by decide +kernel)
set_option maxRecDepth 20000 in
theorem gX6_setPattern_X6_of : GoodIn wsX6_setPattern (wsV RX6 73 RX6 yX6_of wsX6_of) := goodIn_app (goodIn_of _ (by decide +kernel)) ggX6_setPattern_X6_of
set_option maxRecDepth 20000 in
theorem ggX6_setPattern_X6_put : GoodIn wsX6_setPattern wsX6_put := goodIn_r _ [24, 6, 32, 33, 34, 35, 36, 37, 38, 39, 40, 41, 42, 43, 44] (by decide +kernel) (by decide +kernel)
set_option maxRecDepth 20000 in
theorem gX6_setPattern_X6_put : GoodIn wsX6_setPattern (wsV RX6 66 RX6 yX6_put wsX6_put) := goodIn_app (goodIn_of _ (by decide +kernel)) ggX6_setPattern_X6_put
set_option maxRecDepth 20000 in
theorem ggX6_setPattern_X6_done : GoodIn wsX6_setPattern wsX6_done := goodIn_r _ [28, 29, 30, 31, 14, 15, 32, 33, 34, 35, 36, 37, 38, 39, 40, 41, 42, 43, 44] (by decide +kernel) (by decide +kernel)
set_option maxRecDepth 20000 in
theorem gX6_setPattern_X6_done : GoodIn wsX6_setPattern (wsV RX6 62 RX6 yX6_done wsX6_done) := goodIn_app (goodIn_of _ (by decide +kernel)) ggX6_setPattern_X6_done
theorem dX6_setPattern_0 : decode cX6_setPattern 0 = .ok (.aload_n 0, 1) := by decide +kernel
theorem dX6_setPattern_1 : decode cX6_setPattern 1 = .ok (.iload_n 1, 1) := by decide +kernel
theorem dX6_setPattern_2 : decode cX6_setPattern 2 = .ok (.invokevirtual 83, 3) := by decide +kernel
theorem dX6_setPattern_5 : decode cX6_setPattern 5 = .ok (.ifCond .eq 5, 3) := by decide +kernel
theorem dX6_setPattern_8 : decode cX6_setPattern 8 = .ok (.iconst (-1), 1) := by decide +kernel
theorem dX6_setPattern_9 : decode cX6_setPattern 9 = .ok (.ireturn, 1) := by decide +kernel
theorem dX6_setPattern_10 : decode cX6_setPattern 10 = .ok (.iload_n 2, 1) := by decide +kernel
theorem dX6_setPattern_11 : decode cX6_setPattern 11 = .ok (.iconst 0, 1) := by decide +kernel
theorem dX6_setPattern_12 : decode cX6_setPattern 12 = .ok (.sipush 255, 3) := by decide +kernel
theorem dX6_setPattern_15 : decode cX6_setPattern 15 = .ok (.invokestatic 55, 3) := by decide +kernel
theorem dX6_setPattern_18 : decode cX6_setPattern 18 = .ok (.ifCond .ne 6, 3) := by decide +kernel
theorem dX6_setPattern_21 : decode cX6_setPattern 21 = .ok (.bipush (-2), 2) := by decide +kernel
theorem dX6_setPattern_23 : decode cX6_setPattern 23 = .ok (.ireturn, 1) := by decide +kernel
theorem dX6_setPattern_24 : decode cX6_setPattern 24 = .ok (.aload_n 0, 1) := by decide +kernel
theorem dX6_setPattern_25 : decode cX6_setPattern 25 = .ok (.invokevirtual 59, 3) := by decide +kernel
theorem dX6_setPattern_28 : decode cX6_setPattern 28 = .ok (.aload_n 0, 1) := by decide +kernel
theorem dX6_setPattern_29 : decode cX6_setPattern 29 = .ok (.iload_n 1, 1) := by decide +kernel
theorem dX6_setPattern_30 : decode cX6_setPattern 30 = .ok (.iconst 0, 1) := by decide +kernel
theorem dX6_setPattern_31 : decode cX6_setPattern 31 = .ok (.invokevirtual 73, 3) := by decide +kernel
theorem dX6_setPattern_34 : decode cX6_setPattern 34 = .ok (.istore_n 3, 1) := by decide +kernel
theorem dX6_setPattern_35 : decode cX6_setPattern 35 = .ok (.aload_n 0, 1) := by decide +kernel
theorem dX6_setPattern_36 : decode cX6_setPattern 36 = .ok (.iload_n 1, 1) := by decide +kernel
theorem dX6_setPattern_37 : decode cX6_setPattern 37 = .ok (.iconst 0, 1) := by decide +kernel
theorem dX6_setPattern_38 : decode cX6_setPattern 38 = .ok (.iload_n 2, 1) := by decide +kernel
theorem dX6_setPattern_39 : decode cX6_setPattern 39 = .ok (.invokevirtual 66, 3) := by decide +kernel
theorem dX6_setPattern_42 : decode cX6_setPattern 42 = .ok (.aload_n 0, 1) := by decide +kernel
theorem dX6_setPattern_43 : decode cX6_setPattern 43 = .ok (.iload_n 3, 1) := by decide +kernel
theorem dX6_setPattern_44 : decode cX6_setPattern 44 = .ok (.invokevirtual 62, 3) := by decide +kernel
theorem dX6_setPattern_47 : decode cX6_setPattern 47 = .ok (.ireturn, 1) := by decide +kernel
set_option maxRecDepth 20000 in
theorem ggX6_setGroup_X6_noDigit : GoodIn wsX6_setGroup wsX6_noDigit := goodIn_r _ [5, 6, 7, 8, 4, 9, 32, 33, 34, 35, 36, 37, 38, 39, 40, 41, 42, 43, 44] (by decide +kernel) (by decide +kernel)
set_option maxRecDepth 20000 in
theorem gX6_setGroup_X6_noDigit : GoodIn wsX6_setGroup (wsV RX6 83 RX6 yX6_noDigit wsX6_noDigit) := goodIn_app (goodIn_of _ (by decide +kernel)) ggX6_setGroup_X6_noDigit
set_option maxRecDepth 20000 in
theorem ggX6_setGroup_X6_in : GoodIn wsX6_setGroup wsX6_in := goodIn_r _ [9] (by decide +kernel) (by decide +kernel)
set_option maxRecDepth 20000 in
theorem gX6_setGroup_X6_in : GoodIn wsX6_setGroup (va_wsS RX6 55 yX6_in wsX6_in) := goodIn_app (goodIn_of _ (by decide +kernel)) ggX6_setGroup_X6_in
set_option maxRecDepth 20000 in
theorem ggX6_setGroup_X6_begin : GoodIn wsX6_setGroup wsX6_begin := goodIn_r _ [13, 14, 6, 15, 16, 32, 33, 34, 35, 36, 37, 38, 39, 40, 41, 42, 43, 44] (by decide +kernel) (by decide +kernel)
set_option maxRecDepth 20000 in
theorem gX6_setGroup_X6_begin : GoodIn wsX6_setGroup (wsV RX6 59 RX6 yX6_begin wsX6_begin) := goodIn_app (goodIn_of _ (by decide +kernel)) ggX6_setGroup_X6_begin
set_option maxRecDepth 20000 in
theorem ggX6_setGroup_X6_of : GoodIn wsX6_setGroup wsX6_of := goodIn_r _ [20, 6, 32, 33, 34, 35, 36, 37, 38, 39, 40, 41, 42, 43, 44] (by decide +kernel) (by decide +kernel)
set_option maxRecDepth 20000 in
theorem gX6_setGroup_X6_of : GoodIn wsX6_setGroup (wsV RX6 73 RX6 yX6_of wsX6_of) := goodIn_app (goodIn_of _ (by decide +kernel)) ggX6_setGroup_X6_of
set_option maxRecDepth 20000 in
theorem ggX6_setGroup_X6_put : GoodIn wsX6_setGroup wsX6_put := goodIn_r _ [24, 6, 32, 33, 34, 35, 36, 37, 38, 39, 40, 41, 42, 43, 44] (by decide +kernel) (by decide +kernel)
set_option maxRecDepth 20000 in
theorem gX6_setGroup_X6_put : GoodIn wsX6_setGroup (wsV RX6 66 RX6 yX6_put wsX6_put) := goodIn_app (goodIn_of _ (by decide +kernel)) ggX6_setGroup_X6_put
set_option maxRecDepth 20000 in
theorem ggX6_setGroup_X6_done : GoodIn wsX6_setGroup wsX6_done := goodIn_r _ [28, 29, 30, 31, 14, 15, 32, 33, 34, 35, 36, 37, 38, 39, 40, 41, 42, 43, 44] (by decide +kernel) (by decide +kernel)
set_option maxRecDepth 20000 in
theorem gX6_setGroup_X6_done : GoodIn wsX6_setGroup (wsV RX6 62 RX6 yX6_done wsX6_done) := goodIn_app (goodIn_of _ (by decide +kernel)) ggX6_setGroup_X6_done
theorem dX6_setGroup_0 : decode cX6_setGroup 0 = .ok (.aload_n 0, 1) := by decide +kernel
theorem dX6_setGroup_1 : decode cX6_setGroup 1 = .ok (.iload_n 1, 1) := by decide +kernel
theorem dX6_setGroup_2 : decode cX6_setGroup 2 = .ok (.invokevirtual 83, 3) := by decide +kernel
theorem dX6_setGroup_5 : decode cX6_setGroup 5 = .ok (.ifCond .ne 12, 3) := by decide +kernel
theorem dX6_setGroup_8 : decode cX6_setGroup 8 = .ok (.iload_n 2, 1) := by decide +kernel
theorem dX6_setGroup_9 : decode cX6_setGroup 9 = .ok (.iconst 0, 1) := by decide +kernel
theorem dX6_setGroup_10 : decode cX6_setGroup 10 = .ok (.iconst 3, 1) := by decide +kernel
theorem dX6_setGroup_11 : decode cX6_setGroup 11 = .ok (.invokestatic 55, 3) := by decide +kernel
theorem dX6_setGroup_14 : decode cX6_setGroup 14 = .ok (.ifCond .ne 5, 3) := by decide +kernel
theorem dX6_setGroup_17 : decode cX6_setGroup 17 = .ok (.iconst (-1), 1) := by decide +kernel
theorem dX6_setGroup_18 : decode cX6_setGroup 18 = .ok (.ireturn, 1) := by decide +kernel
theorem dX6_setGroup_19 : decode cX6_setGroup 19 = .ok (.aload_n 0, 1) := by decide +kernel
theorem dX6_setGroup_20 : decode cX6_setGroup 20 = .ok (.invokevirtual 59, 3) := by decide +kernel
theorem dX6_setGroup_23 : decode cX6_setGroup 23 = .ok (.aload_n 0, 1) := by decide +kernel
theorem dX6_setGroup_24 : decode cX6_setGroup 24 = .ok (.iload_n 1, 1) := by decide +kernel
theorem dX6_setGroup_25 : decode cX6_setGroup 25 = .ok (.iconst 4, 1) := by decide +kernel
theorem dX6_setGroup_26 : decode cX6_setGroup 26 = .ok (.invokevirtual 73, 3) := by decide +kernel
theorem dX6_setGroup_29 : decode cX6_setGroup 29 = .ok (.istore_n 3, 1) := by decide +kernel
theorem dX6_setGroup_30 : decode cX6_setGroup 30 = .ok (.aload_n 0, 1) := by decide +kernel
theorem dX6_setGroup_31 : decode cX6_setGroup 31 = .ok (.iload_n 1, 1) := by decide +kernel
theorem dX6_setGroup_32 : decode cX6_setGroup 32 = .ok (.iconst 4, 1) := by decide +kernel
theorem dX6_setGroup_33 : decode cX6_setGroup 33 = .ok (.iload_n 2, 1) := by decide +kernel
theorem dX6_setGroup_34 : decode cX6_setGroup 34 = .ok (.invokevirtual 66, 3) := by decide +kernel
theorem dX6_setGroup_37 : decode cX6_setGroup 37 = .ok (.aload_n 0, 1) := by decide +kernel
theorem dX6_setGroup_38 : decode cX6_setGroup 38 = .ok (.iload_n 3, 1) := by decide +kernel
theorem dX6_setGroup_39 : decode cX6_setGroup 39 = .ok (.invokevirtual 62, 3) := by decide +kernel
theorem dX6_setGroup_42 : decode cX6_setGroup 42 = .ok (.ireturn, 1) := by decide +kernel
set_option maxRecDepth 20000 in
theorem ggX6_digitsIn_X6_of : GoodIn wsX6_digitsIn wsX6_of := goodIn_r _ [6, 1, 7, 8, 9, 10, 11, 12, 13, 14, 15, 16, 17, 18, 19] (by decide +kernel) (by decide +kernel)
set_option maxRecDepth 20000 in
theorem gX6_digitsIn_X6_of : GoodIn wsX6_digitsIn (wsV RX6 73 RX6 yX6_of wsX6_of) := goodIn_app (goodIn_of _ (by decide +kernel)) ggX6_digitsIn_X6_of
theorem dX6_digitsIn_0 : decode cX6_digitsIn 0 = .ok (.iconst 0, 1) := by decide +kernel
theorem dX6_digitsIn_1 : decode cX6_digitsIn 1 = .ok (.istore_n 2, 1) := by decide +kernel
theorem dX6_digitsIn_2 : decode cX6_digitsIn 2 = .ok (.iconst 0, 1) := by decide +kernel
theorem dX6_digitsIn_3 : decode cX6_digitsIn 3 = .ok (.istore_n 3, 1) := by decide +kernel
theorem dX6_digitsIn_4 : decode cX6_digitsIn 4 = .ok (.iload_n 3, 1) := by decide +kernel
theorem dX6_digitsIn_5 : decode cX6_digitsIn 5 = .ok (.aload_n 0, 1) := by decide +kernel
theorem dX6_digitsIn_6 : decode cX6_digitsIn 6 = .ok (.getfield 7, 3) := by decide +kernel
theorem dX6_digitsIn_9 : decode cX6_digitsIn 9 = .ok (.iconst 0, 1) := by decide +kernel
theorem dX6_digitsIn_10 : decode cX6_digitsIn 10 = .ok (.iaload, 1) := by decide +kernel
theorem dX6_digitsIn_11 : decode cX6_digitsIn 11 = .ok (.if_icmp .ge 27, 3) := by decide +kernel
theorem dX6_digitsIn_14 : decode cX6_digitsIn 14 = .ok (.iload_n 2, 1) := by decide +kernel
theorem dX6_digitsIn_15 : decode cX6_digitsIn 15 = .ok (.aload_n 0, 1) := by decide +kernel
theorem dX6_digitsIn_16 : decode cX6_digitsIn 16 = .ok (.iload_n 3, 1) := by decide +kernel
theorem dX6_digitsIn_17 : decode cX6_digitsIn 17 = .ok (.iconst 4, 1) := by decide +kernel
theorem dX6_digitsIn_18 : decode cX6_digitsIn 18 = .ok (.invokevirtual 73, 3) := by decide +kernel
theorem dX6_digitsIn_21 : decode cX6_digitsIn 21 = .ok (.iload_n 1, 1) := by decide +kernel
theorem dX6_digitsIn_22 : decode cX6_digitsIn 22 = .ok (.if_icmp .ne 7, 3) := by decide +kernel
theorem dX6_digitsIn_25 : decode cX6_digitsIn 25 = .ok (.iconst 1, 1) := by decide +kernel
theorem dX6_digitsIn_26 : decode cX6_digitsIn 26 = .ok (.goto 4, 3) := by decide +kernel
theorem dX6_digitsIn_29 : decode cX6_digitsIn 29 = .ok (.iconst 0, 1) := by decide +kernel
theorem dX6_digitsIn_30 : decode cX6_digitsIn 30 = .ok (.iadd, 1) := by decide +kernel
theorem dX6_digitsIn_31 : decode cX6_digitsIn 31 = .ok (.istore_n 2, 1) := by decide +kernel
theorem dX6_digitsIn_32 : decode cX6_digitsIn 32 = .ok (.iinc 3 1, 3) := by decide +kernel
theorem dX6_digitsIn_35 : decode cX6_digitsIn 35 = .ok (.goto (-31), 3) := by decide +kernel
theorem dX6_digitsIn_38 : decode cX6_digitsIn 38 = .ok (.iload_n 2, 1) := by decide +kernel
theorem dX6_digitsIn_39 : decode cX6_digitsIn 39 = .ok (.ireturn, 1) := by decide +kernel
set_option maxRecDepth 20000 in
theorem ggX6_setBlink_X6_in : GoodIn wsX6_setBlink wsX6_in := goodIn_r _ [5] (by decide +kernel) (by decide +kernel)
set_option maxRecDepth 20000 in
theorem gX6_setBlink_X6_in : GoodIn wsX6_setBlink (va_wsS RX6 55 yX6_in wsX6_in) := goodIn_app (goodIn_of _ (by decide +kernel)) ggX6_setBlink_X6_in
set_option maxRecDepth 20000 in
theorem ggX6_setBlink_X6_begin : GoodIn wsX6_setBlink wsX6_begin := goodIn_r _ [9, 10, 1, 11, 12, 28, 29, 30, 31, 32, 33, 34, 35, 36, 37, 38, 39, 40] (by decide +kernel) (by decide +kernel)
set_option maxRecDepth 20000 in
theorem gX6_setBlink_X6_begin : GoodIn wsX6_setBlink (wsV RX6 59 RX6 yX6_begin wsX6_begin) := goodIn_app (goodIn_of _ (by decide +kernel)) ggX6_setBlink_X6_begin
set_option maxRecDepth 20000 in
theorem ggX6_setBlink_X6_digitsIn : GoodIn wsX6_setBlink wsX6_digitsIn := goodIn_r _ [16, 1, 17, 18, 19, 4, 20, 28, 29, 30, 31, 32, 33, 34, 35, 36, 37, 38, 39, 40] (by decide +kernel) (by decide +kernel)
set_option maxRecDepth 20000 in
theorem gX6_setBlink_X6_digitsIn : GoodIn wsX6_setBlink (wsV RX6 94 RX6 yX6_digitsIn wsX6_digitsIn) := goodIn_app (goodIn_of _ (by decide +kernel)) ggX6_setBlink_X6_digitsIn
set_option maxRecDepth 20000 in
theorem ggX6_setBlink_X6_done : GoodIn wsX6_setBlink wsX6_done := goodIn_r _ [24, 25, 26, 27, 10, 11, 28, 29, 30, 31, 32, 33, 34, 35, 36, 37, 38, 39, 40] (by decide +kernel) (by decide +kernel)
set_option maxRecDepth 20000 in
theorem gX6_setBlink_X6_done : GoodIn wsX6_setBlink (wsV RX6 62 RX6 yX6_done wsX6_done) := goodIn_app (goodIn_of _ (by decide +kernel)) ggX6_setBlink_X6_done
theorem dX6_setBlink_0 : decode cX6_setBlink 0 = .ok (.iload_n 1, 1) := by decide +kernel
theorem dX6_setBlink_1 : decode cX6_setBlink 1 = .ok (.iconst 1, 1) := by decide +kernel
theorem dX6_setBlink_2 : decode cX6_setBlink 2 = .ok (.iconst 3, 1) := by decide +kernel
theorem dX6_setBlink_3 : decode cX6_setBlink 3 = .ok (.invokestatic 55, 3) := by decide +kernel
theorem dX6_setBlink_6 : decode cX6_setBlink 6 = .ok (.ifCond .ne 5, 3) := by decide +kernel
theorem dX6_setBlink_9 : decode cX6_setBlink 9 = .ok (.iconst (-1), 1) := by decide +kernel
theorem dX6_setBlink_10 : decode cX6_setBlink 10 = .ok (.ireturn, 1) := by decide +kernel
theorem dX6_setBlink_11 : decode cX6_setBlink 11 = .ok (.iload_n 2, 1) := by decide +kernel
theorem dX6_setBlink_12 : decode cX6_setBlink 12 = .ok (.iconst 1, 1) := by decide +kernel
theorem dX6_setBlink_13 : decode cX6_setBlink 13 = .ok (.bipush 50, 2) := by decide +kernel
theorem dX6_setBlink_15 : decode cX6_setBlink 15 = .ok (.invokestatic 55, 3) := by decide +kernel
theorem dX6_setBlink_18 : decode cX6_setBlink 18 = .ok (.ifCond .eq 13, 3) := by decide +kernel
theorem dX6_setBlink_21 : decode cX6_setBlink 21 = .ok (.iload_n 3, 1) := by decide +kernel
theorem dX6_setBlink_22 : decode cX6_setBlink 22 = .ok (.iconst 0, 1) := by decide +kernel
theorem dX6_setBlink_23 : decode cX6_setBlink 23 = .ok (.bipush 50, 2) := by decide +kernel
theorem dX6_setBlink_25 : decode cX6_setBlink 25 = .ok (.invokestatic 55, 3) := by decide +kernel
theorem dX6_setBlink_28 : decode cX6_setBlink 28 = .ok (.ifCond .ne 6, 3) := by decide +kernel
theorem dX6_setBlink_31 : decode cX6_setBlink 31 = .ok (.bipush (-2), 2) := by decide +kernel
theorem dX6_setBlink_33 : decode cX6_setBlink 33 = .ok (.ireturn, 1) := by decide +kernel
theorem dX6_setBlink_34 : decode cX6_setBlink 34 = .ok (.aload_n 0, 1) := by decide +kernel
theorem dX6_setBlink_35 : decode cX6_setBlink 35 = .ok (.invokevirtual 59, 3) := by decide +kernel
theorem dX6_setBlink_38 : decode cX6_setBlink 38 = .ok (.aload_n 0, 1) := by decide +kernel
theorem dX6_setBlink_39 : decode cX6_setBlink 39 = .ok (.getfield 7, 3) := by decide +kernel
theorem dX6_setBlink_42 : decode cX6_setBlink 42 = .ok (.bipush 9, 2) := by decide +kernel
theorem dX6_setBlink_44 : decode cX6_setBlink 44 = .ok (.iload_n 1, 1) := by decide +kernel
theorem dX6_setBlink_45 : decode cX6_setBlink 45 = .ok (.iadd, 1) := by decide +kernel
theorem dX6_setBlink_46 : decode cX6_setBlink 46 = .ok (.iconst 1, 1) := by decide +kernel
theorem dX6_setBlink_47 : decode cX6_setBlink 47 = .ok (.isub, 1) := by decide +kernel
theorem dX6_setBlink_48 : decode cX6_setBlink 48 = .ok (.iload_n 2, 1) := by decide +kernel
theorem dX6_setBlink_49 : decode cX6_setBlink 49 = .ok (.iastore, 1) := by decide +kernel
theorem dX6_setBlink_50 : decode cX6_setBlink 50 = .ok (.aload_n 0, 1) := by decide +kernel
theorem dX6_setBlink_51 : decode cX6_setBlink 51 = .ok (.getfield 7, 3) := by decide +kernel
theorem dX6_setBlink_54 : decode cX6_setBlink 54 = .ok (.bipush 12, 2) := by decide +kernel
theorem dX6_setBlink_56 : decode cX6_setBlink 56 = .ok (.iload_n 1, 1) := by decide +kernel
theorem dX6_setBlink_57 : decode cX6_setBlink 57 = .ok (.iadd, 1) := by decide +kernel
theorem dX6_setBlink_58 : decode cX6_setBlink 58 = .ok (.iconst 1, 1) := by decide +kernel
theorem dX6_setBlink_59 : decode cX6_setBlink 59 = .ok (.isub, 1) := by decide +kernel
theorem dX6_setBlink_60 : decode cX6_setBlink 60 = .ok (.iload_n 3, 1) := by decide +kernel
theorem dX6_setBlink_61 : decode cX6_setBlink 61 = .ok (.iastore, 1) := by decide +kernel
theorem dX6_setBlink_62 : decode cX6_setBlink 62 = .ok (.aload_n 0, 1) := by decide +kernel
theorem dX6_setBlink_63 : decode cX6_setBlink 63 = .ok (.aload_n 0, 1) := by decide +kernel
theorem dX6_setBlink_64 : decode cX6_setBlink 64 = .ok (.iload_n 1, 1) := by decide +kernel
theorem dX6_setBlink_65 : decode cX6_setBlink 65 = .ok (.invokevirtual 94, 3) := by decide +kernel
theorem dX6_setBlink_68 : decode cX6_setBlink 68 = .ok (.invokevirtual 62, 3) := by decide +kernel
theorem dX6_setBlink_71 : decode cX6_setBlink 71 = .ok (.ireturn, 1) := by decide +kernel
set_option maxRecDepth 20000 in
theorem ggX6_set_X6_in : GoodIn wsX6_set wsX6_in := goodIn_r _ [6] (by decide +kernel) (by decide +kernel)
set_option maxRecDepth 20000 in
theorem gX6_set_X6_in : GoodIn wsX6_set (va_wsS RX6 55 yX6_in wsX6_in) := goodIn_app (goodIn_of _ (by decide +kernel)) ggX6_set_X6_in
set_option maxRecDepth 20000 in
theorem ggX6_set_X6_begin : GoodIn wsX6_set wsX6_begin := goodIn_r _ [10, 11, 2, 12, 13, 21, 22, 23, 24, 25, 26, 27, 28, 29, 30, 31, 32, 33] (by decide +kernel) (by decide +kernel)
set_option maxRecDepth 20000 in
theorem gX6_set_X6_begin : GoodIn wsX6_set (wsV RX6 59 RX6 yX6_begin wsX6_begin) := goodIn_app (goodIn_of _ (by decide +kernel)) ggX6_set_X6_begin
set_option maxRecDepth 20000 in
theorem ggX6_set_X6_done : GoodIn wsX6_set wsX6_done := goodIn_r _ [17, 18, 19, 20, 11, 12, 21, 22, 23, 24, 25, 26, 27, 28, 29, 30, 31, 32, 33] (by decide +kernel) (by decide +kernel)
set_option maxRecDepth 20000 in
theorem gX6_set_X6_done : GoodIn wsX6_set (wsV RX6 62 RX6 yX6_done wsX6_done) := goodIn_app (goodIn_of _ (by decide +kernel)) ggX6_set_X6_done
theorem dX6_set_0 : decode cX6_set 0 = .ok (.iload_n 1, 1) := by decide +kernel
theorem dX6_set_1 : decode cX6_set 1 = .ok (.iconst 0, 1) := by decide +kernel
theorem dX6_set_2 : decode cX6_set 2 = .ok (.iconst 2, 1) := by decide +kernel
theorem dX6_set_3 : decode cX6_set 3 = .ok (.invokestatic 55, 3) := by decide +kernel
theorem dX6_set_6 : decode cX6_set 6 = .ok (.ifCond .ne 5, 3) := by decide +kernel
theorem dX6_set_9 : decode cX6_set 9 = .ok (.iconst (-1), 1) := by decide +kernel
theorem dX6_set_10 : decode cX6_set 10 = .ok (.ireturn, 1) := by decide +kernel
theorem dX6_set_11 : decode cX6_set 11 = .ok (.iload_n 2, 1) := by decide +kernel
theorem dX6_set_12 : decode cX6_set 12 = .ok (.iload_n 1, 1) := by decide +kernel
theorem dX6_set_13 : decode cX6_set 13 = .ok (.ifCond .ne 7, 3) := by decide +kernel
theorem dX6_set_16 : decode cX6_set 16 = .ok (.iconst 2, 1) := by decide +kernel
theorem dX6_set_17 : decode cX6_set 17 = .ok (.goto 4, 3) := by decide +kernel
theorem dX6_set_20 : decode cX6_set 20 = .ok (.iconst 1, 1) := by decide +kernel
theorem dX6_set_21 : decode cX6_set 21 = .ok (.iload_n 1, 1) := by decide +kernel
theorem dX6_set_22 : decode cX6_set 22 = .ok (.ifCond .ne 8, 3) := by decide +kernel
theorem dX6_set_25 : decode cX6_set 25 = .ok (.bipush 50, 2) := by decide +kernel
theorem dX6_set_27 : decode cX6_set 27 = .ok (.goto 16, 3) := by decide +kernel
theorem dX6_set_30 : decode cX6_set 30 = .ok (.iload_n 1, 1) := by decide +kernel
theorem dX6_set_31 : decode cX6_set 31 = .ok (.iconst 1, 1) := by decide +kernel
theorem dX6_set_32 : decode cX6_set 32 = .ok (.if_icmp .ne 9, 3) := by decide +kernel
theorem dX6_set_35 : decode cX6_set 35 = .ok (.sipush 1000, 3) := by decide +kernel
theorem dX6_set_38 : decode cX6_set 38 = .ok (.goto 5, 3) := by decide +kernel
theorem dX6_set_41 : decode cX6_set 41 = .ok (.ldc 97, 2) := by decide +kernel
theorem dX6_set_43 : decode cX6_set 43 = .ok (.invokestatic 55, 3) := by decide +kernel
theorem dX6_set_46 : decode cX6_set 46 = .ok (.ifCond .ne 6, 3) := by decide +kernel
theorem dX6_set_49 : decode cX6_set 49 = .ok (.bipush (-2), 2) := by decide +kernel
theorem dX6_set_51 : decode cX6_set 51 = .ok (.ireturn, 1) := by decide +kernel
theorem dX6_set_52 : decode cX6_set 52 = .ok (.aload_n 0, 1) := by decide +kernel
theorem dX6_set_53 : decode cX6_set 53 = .ok (.invokevirtual 59, 3) := by decide +kernel
theorem dX6_set_56 : decode cX6_set 56 = .ok (.aload_n 0, 1) := by decide +kernel
theorem dX6_set_57 : decode cX6_set 57 = .ok (.getfield 7, 3) := by decide +kernel
theorem dX6_set_60 : decode cX6_set 60 = .ok (.bipush 6, 2) := by decide +kernel
theorem dX6_set_62 : decode cX6_set 62 = .ok (.iload_n 1, 1) := by decide +kernel
theorem dX6_set_63 : decode cX6_set 63 = .ok (.iadd, 1) := by decide +kernel
theorem dX6_set_64 : decode cX6_set 64 = .ok (.iaload, 1) := by decide +kernel
theorem dX6_set_65 : decode cX6_set 65 = .ok (.istore_n 3, 1) := by decide +kernel
theorem dX6_set_66 : decode cX6_set 66 = .ok (.aload_n 0, 1) := by decide +kernel
theorem dX6_set_67 : decode cX6_set 67 = .ok (.getfield 7, 3) := by decide +kernel
theorem dX6_set_70 : decode cX6_set 70 = .ok (.bipush 6, 2) := by decide +kernel
theorem dX6_set_72 : decode cX6_set 72 = .ok (.iload_n 1, 1) := by decide +kernel
theorem dX6_set_73 : decode cX6_set 73 = .ok (.iadd, 1) := by decide +kernel
theorem dX6_set_74 : decode cX6_set 74 = .ok (.iload_n 2, 1) := by decide +kernel
theorem dX6_set_75 : decode cX6_set 75 = .ok (.iastore, 1) := by decide +kernel
theorem dX6_set_76 : decode cX6_set 76 = .ok (.aload_n 0, 1) := by decide +kernel
theorem dX6_set_77 : decode cX6_set 77 = .ok (.iload_n 3, 1) := by decide +kernel
theorem dX6_set_78 : decode cX6_set 78 = .ok (.invokevirtual 62, 3) := by decide +kernel
theorem dX6_set_81 : decode cX6_set 81 = .ok (.ireturn, 1) := by decide +kernel
theorem dX6_brokenOf_0 : decode cX6_brokenOf 0 = .ok (.iconst 0, 1) := by decide +kernel
theorem dX6_brokenOf_1 : decode cX6_brokenOf 1 = .ok (.istore_n 2, 1) := by decide +kernel
theorem dX6_brokenOf_2 : decode cX6_brokenOf 2 = .ok (.iconst 0, 1) := by decide +kernel
theorem dX6_brokenOf_3 : decode cX6_brokenOf 3 = .ok (.istore_n 3, 1) := by decide +kernel
theorem dX6_brokenOf_4 : decode cX6_brokenOf 4 = .ok (.iload_n 3, 1) := by decide +kernel
theorem dX6_brokenOf_5 : decode cX6_brokenOf 5 = .ok (.bipush 8, 2) := by decide +kernel
theorem dX6_brokenOf_7 : decode cX6_brokenOf 7 = .ok (.if_icmp .ge 26, 3) := by decide +kernel
theorem dX6_brokenOf_10 : decode cX6_brokenOf 10 = .ok (.iload_n 2, 1) := by decide +kernel
theorem dX6_brokenOf_11 : decode cX6_brokenOf 11 = .ok (.aload_n 0, 1) := by decide +kernel
theorem dX6_brokenOf_12 : decode cX6_brokenOf 12 = .ok (.getfield 7, 3) := by decide +kernel
theorem dX6_brokenOf_15 : decode cX6_brokenOf 15 = .ok (.sipush 192, 3) := by decide +kernel
theorem dX6_brokenOf_18 : decode cX6_brokenOf 18 = .ok (.iload_n 1, 1) := by decide +kernel
theorem dX6_brokenOf_19 : decode cX6_brokenOf 19 = .ok (.iadd, 1) := by decide +kernel
theorem dX6_brokenOf_20 : decode cX6_brokenOf 20 = .ok (.iaload, 1) := by decide +kernel
theorem dX6_brokenOf_21 : decode cX6_brokenOf 21 = .ok (.iload_n 3, 1) := by decide +kernel
theorem dX6_brokenOf_22 : decode cX6_brokenOf 22 = .ok (.ishr, 1) := by decide +kernel
theorem dX6_brokenOf_23 : decode cX6_brokenOf 23 = .ok (.iconst 1, 1) := by decide +kernel
theorem dX6_brokenOf_24 : decode cX6_brokenOf 24 = .ok (.iand, 1) := by decide +kernel
theorem dX6_brokenOf_25 : decode cX6_brokenOf 25 = .ok (.iadd, 1) := by decide +kernel
theorem dX6_brokenOf_26 : decode cX6_brokenOf 26 = .ok (.istore_n 2, 1) := by decide +kernel
theorem dX6_brokenOf_27 : decode cX6_brokenOf 27 = .ok (.iinc 3 1, 3) := by decide +kernel
theorem dX6_brokenOf_30 : decode cX6_brokenOf 30 = .ok (.goto (-26), 3) := by decide +kernel
theorem dX6_brokenOf_33 : decode cX6_brokenOf 33 = .ok (.iload_n 2, 1) := by decide +kernel
theorem dX6_brokenOf_34 : decode cX6_brokenOf 34 = .ok (.ireturn, 1) := by decide +kernel
set_option maxRecDepth 20000 in
theorem ggX6_replace_X6_noDigit : GoodIn wsX6_replace wsX6_noDigit := goodIn_r _ [5, 6, 7, 8, 4, 9, 32, 33, 34, 35, 36, 37, 38, 39, 40, 41, 42, 43, 44] (by decide +kernel) (by decide +kernel)
set_option maxRecDepth 20000 in
theorem gX6_replace_X6_noDigit : GoodIn wsX6_replace (wsV RX6 83 RX6 yX6_noDigit wsX6_noDigit) := goodIn_app (goodIn_of _ (by decide +kernel)) ggX6_replace_X6_noDigit
set_option maxRecDepth 20000 in
theorem ggX6_replace_X6_begin : GoodIn wsX6_replace wsX6_begin := goodIn_r _ [13, 14, 6, 15, 16, 32, 33, 34, 35, 36, 37, 38, 39, 40, 41, 42, 43, 44] (by decide +kernel) (by decide +kernel)
set_option maxRecDepth 20000 in
theorem gX6_replace_X6_begin : GoodIn wsX6_replace (wsV RX6 59 RX6 yX6_begin wsX6_begin) := goodIn_app (goodIn_of _ (by decide +kernel)) ggX6_replace_X6_begin
set_option maxRecDepth 20000 in
theorem ggX6_replace_X6_brokenOf : GoodIn wsX6_replace wsX6_brokenOf := goodIn_r _ [20, 6, 32, 33, 34, 35, 36, 37, 38, 39, 40, 41, 42, 43, 44] (by decide +kernel) (by decide +kernel)
set_option maxRecDepth 20000 in
theorem gX6_replace_X6_brokenOf : GoodIn wsX6_replace (wsV RX6 98 RX6 yX6_brokenOf wsX6_brokenOf) := goodIn_app (goodIn_of _ (by decide +kernel)) ggX6_replace_X6_brokenOf
set_option maxRecDepth 20000 in
theorem ggX6_replace_X6_renew : GoodIn wsX6_replace wsX6_renew := goodIn_r _ [24, 6, 32, 33, 34, 35, 36, 37, 38, 39, 40, 41, 42, 43, 44] (by decide +kernel) (by decide +kernel)
set_option maxRecDepth 20000 in
theorem gX6_replace_X6_renew : GoodIn wsX6_replace (wsV RX6 70 RX6 yX6_renew wsX6_renew) := goodIn_app (goodIn_of _ (by decide +kernel)) ggX6_replace_X6_renew
set_option maxRecDepth 20000 in
theorem ggX6_replace_X6_done : GoodIn wsX6_replace wsX6_done := goodIn_r _ [28, 29, 30, 31, 14, 15, 32, 33, 34, 35, 36, 37, 38, 39, 40, 41, 42, 43, 44] (by decide +kernel) (by decide +kernel)
set_option maxRecDepth 20000 in
theorem gX6_replace_X6_done : GoodIn wsX6_replace (wsV RX6 62 RX6 yX6_done wsX6_done) := goodIn_app (goodIn_of _ (by decide +kernel)) ggX6_replace_X6_done
theorem dX6_replace_0 : decode cX6_replace 0 = .ok (.aload_n 0, 1) := by decide +kernel
theorem dX6_replace_1 : decode cX6_replace 1 = .ok (.iload_n 1, 1) := by decide +kernel
theorem dX6_replace_2 : decode cX6_replace 2 = .ok (.invokevirtual 83, 3) := by decide +kernel
theorem dX6_replace_5 : decode cX6_replace 5 = .ok (.ifCond .eq 5, 3) := by decide +kernel
theorem dX6_replace_8 : decode cX6_replace 8 = .ok (.iconst (-1), 1) := by decide +kernel
theorem dX6_replace_9 : decode cX6_replace 9 = .ok (.ireturn, 1) := by decide +kernel
theorem dX6_replace_10 : decode cX6_replace 10 = .ok (.aload_n 0, 1) := by decide +kernel
theorem dX6_replace_11 : decode cX6_replace 11 = .ok (.invokevirtual 59, 3) := by decide +kernel
theorem dX6_replace_14 : decode cX6_replace 14 = .ok (.aload_n 0, 1) := by decide +kernel
theorem dX6_replace_15 : decode cX6_replace 15 = .ok (.iload_n 1, 1) := by decide +kernel
theorem dX6_replace_16 : decode cX6_replace 16 = .ok (.invokevirtual 98, 3) := by decide +kernel
theorem dX6_replace_19 : decode cX6_replace 19 = .ok (.istore_n 2, 1) := by decide +kernel
theorem dX6_replace_20 : decode cX6_replace 20 = .ok (.aload_n 0, 1) := by decide +kernel
theorem dX6_replace_21 : decode cX6_replace 21 = .ok (.iload_n 1, 1) := by decide +kernel
theorem dX6_replace_22 : decode cX6_replace 22 = .ok (.invokevirtual 70, 3) := by decide +kernel
theorem dX6_replace_25 : decode cX6_replace 25 = .ok (.aload_n 0, 1) := by decide +kernel
theorem dX6_replace_26 : decode cX6_replace 26 = .ok (.iload_n 2, 1) := by decide +kernel
theorem dX6_replace_27 : decode cX6_replace 27 = .ok (.invokevirtual 62, 3) := by decide +kernel
theorem dX6_replace_30 : decode cX6_replace 30 = .ok (.ireturn, 1) := by decide +kernel
set_option maxRecDepth 20000 in
theorem ggX6_test_X6_in : GoodIn wsX6_test wsX6_in := goodIn_r _ [5] (by decide +kernel) (by decide +kernel)
set_option maxRecDepth 20000 in
theorem gX6_test_X6_in : GoodIn wsX6_test (va_wsS RX6 55 yX6_in wsX6_in) := goodIn_app (goodIn_of _ (by decide +kernel)) ggX6_test_X6_in
set_option maxRecDepth 20000 in
theorem ggX6_test_X6_begin : GoodIn wsX6_test wsX6_begin := goodIn_r _ [9, 10, 1, 11, 12, 20, 21, 22, 23, 24, 25, 26, 27, 28, 29, 30, 31, 32] (by decide +kernel) (by decide +kernel)
set_option maxRecDepth 20000 in
theorem gX6_test_X6_begin : GoodIn wsX6_test (wsV RX6 59 RX6 yX6_begin wsX6_begin) := goodIn_app (goodIn_of _ (by decide +kernel)) ggX6_test_X6_begin
set_option maxRecDepth 20000 in
theorem ggX6_test_X6_done : GoodIn wsX6_test wsX6_done := goodIn_r _ [16, 17, 18, 19, 10, 11, 20, 21, 22, 23, 24, 25, 26, 27, 28, 29, 30, 31, 32] (by decide +kernel) (by decide +kernel)
set_option maxRecDepth 20000 in
theorem gX6_test_X6_done : GoodIn wsX6_test (wsV RX6 62 RX6 yX6_done wsX6_done) := goodIn_app (goodIn_of _ (by decide +kernel)) ggX6_test_X6_done
theorem dX6_test_0 : decode cX6_test 0 = .ok (.iload_n 1, 1) := by decide +kernel
theorem dX6_test_1 : decode cX6_test 1 = .ok (.iconst 0, 1) := by decide +kernel
theorem dX6_test_2 : decode cX6_test 2 = .ok (.bipush 50, 2) := by decide +kernel
theorem dX6_test_4 : decode cX6_test 4 = .ok (.invokestatic 55, 3) := by decide +kernel
theorem dX6_test_7 : decode cX6_test 7 = .ok (.ifCond .ne 6, 3) := by decide +kernel
theorem dX6_test_10 : decode cX6_test 10 = .ok (.bipush (-2), 2) := by decide +kernel
theorem dX6_test_12 : decode cX6_test 12 = .ok (.ireturn, 1) := by decide +kernel
theorem dX6_test_13 : decode cX6_test 13 = .ok (.aload_n 0, 1) := by decide +kernel
theorem dX6_test_14 : decode cX6_test 14 = .ok (.invokevirtual 59, 3) := by decide +kernel
theorem dX6_test_17 : decode cX6_test 17 = .ok (.aload_n 0, 1) := by decide +kernel
theorem dX6_test_18 : decode cX6_test 18 = .ok (.getfield 7, 3) := by decide +kernel
theorem dX6_test_21 : decode cX6_test 21 = .ok (.iconst 4, 1) := by decide +kernel
theorem dX6_test_22 : decode cX6_test 22 = .ok (.iaload, 1) := by decide +kernel
theorem dX6_test_23 : decode cX6_test 23 = .ok (.istore_n 2, 1) := by decide +kernel
theorem dX6_test_24 : decode cX6_test 24 = .ok (.aload_n 0, 1) := by decide +kernel
theorem dX6_test_25 : decode cX6_test 25 = .ok (.getfield 7, 3) := by decide +kernel
theorem dX6_test_28 : decode cX6_test 28 = .ok (.iconst 4, 1) := by decide +kernel
theorem dX6_test_29 : decode cX6_test 29 = .ok (.iload_n 1, 1) := by decide +kernel
theorem dX6_test_30 : decode cX6_test 30 = .ok (.iastore, 1) := by decide +kernel
theorem dX6_test_31 : decode cX6_test 31 = .ok (.aload_n 0, 1) := by decide +kernel
theorem dX6_test_32 : decode cX6_test 32 = .ok (.iload_n 2, 1) := by decide +kernel
theorem dX6_test_33 : decode cX6_test 33 = .ok (.invokevirtual 62, 3) := by decide +kernel
theorem dX6_test_36 : decode cX6_test 36 = .ok (.ireturn, 1) := by decide +kernel
theorem dX6_isOn_0 : decode cX6_isOn 0 = .ok (.iload_n 1, 1) := by decide +kernel
theorem dX6_isOn_1 : decode cX6_isOn 1 = .ok (.ifCond .ne 5, 3) := by decide +kernel
theorem dX6_isOn_4 : decode cX6_isOn 4 = .ok (.iconst 1, 1) := by decide +kernel
theorem dX6_isOn_5 : decode cX6_isOn 5 = .ok (.ireturn, 1) := by decide +kernel
theorem dX6_isOn_6 : decode cX6_isOn 6 = .ok (.aload_n 0, 1) := by decide +kernel
theorem dX6_isOn_7 : decode cX6_isOn 7 = .ok (.getfield 7, 3) := by decide +kernel
theorem dX6_isOn_10 : decode cX6_isOn 10 = .ok (.bipush 9, 2) := by decide +kernel
theorem dX6_isOn_12 : decode cX6_isOn 12 = .ok (.iload_n 1, 1) := by decide +kernel
theorem dX6_isOn_13 : decode cX6_isOn 13 = .ok (.iadd, 1) := by decide +kernel
theorem dX6_isOn_14 : decode cX6_isOn 14 = .ok (.iconst 1, 1) := by decide +kernel
theorem dX6_isOn_15 : decode cX6_isOn 15 = .ok (.isub, 1) := by decide +kernel
theorem dX6_isOn_16 : decode cX6_isOn 16 = .ok (.iaload, 1) := by decide +kernel
theorem dX6_isOn_17 : decode cX6_isOn 17 = .ok (.istore_n 2, 1) := by decide +kernel
theorem dX6_isOn_18 : decode cX6_isOn 18 = .ok (.aload_n 0, 1) := by decide +kernel
theorem dX6_isOn_19 : decode cX6_isOn 19 = .ok (.getfield 7, 3) := by decide +kernel
theorem dX6_isOn_22 : decode cX6_isOn 22 = .ok (.iconst 2, 1) := by decide +kernel
theorem dX6_isOn_23 : decode cX6_isOn 23 = .ok (.iaload, 1) := by decide +kernel
theorem dX6_isOn_24 : decode cX6_isOn 24 = .ok (.iload_n 2, 1) := by decide +kernel
theorem dX6_isOn_25 : decode cX6_isOn 25 = .ok (.aload_n 0, 1) := by decide +kernel
theorem dX6_isOn_26 : decode cX6_isOn 26 = .ok (.getfield 7, 3) := by decide +kernel
theorem dX6_isOn_29 : decode cX6_isOn 29 = .ok (.bipush 12, 2) := by decide +kernel
theorem dX6_isOn_31 : decode cX6_isOn 31 = .ok (.iload_n 1, 1) := by decide +kernel
theorem dX6_isOn_32 : decode cX6_isOn 32 = .ok (.iadd, 1) := by decide +kernel
theorem dX6_isOn_33 : decode cX6_isOn 33 = .ok (.iconst 1, 1) := by decide +kernel
theorem dX6_isOn_34 : decode cX6_isOn 34 = .ok (.isub, 1) := by decide +kernel
theorem dX6_isOn_35 : decode cX6_isOn 35 = .ok (.iaload, 1) := by decide +kernel
theorem dX6_isOn_36 : decode cX6_isOn 36 = .ok (.iadd, 1) := by decide +kernel
theorem dX6_isOn_37 : decode cX6_isOn 37 = .ok (.irem, 1) := by decide +kernel
theorem dX6_isOn_38 : decode cX6_isOn 38 = .ok (.iload_n 2, 1) := by decide +kernel
theorem dX6_isOn_39 : decode cX6_isOn 39 = .ok (.if_icmp .ge 7, 3) := by decide +kernel
theorem dX6_isOn_42 : decode cX6_isOn 42 = .ok (.iconst 1, 1) := by decide +kernel
theorem dX6_isOn_43 : decode cX6_isOn 43 = .ok (.goto 4, 3) := by decide +kernel
theorem dX6_isOn_46 : decode cX6_isOn 46 = .ok (.iconst 0, 1) := by decide +kernel
theorem dX6_isOn_47 : decode cX6_isOn 47 = .ok (.ireturn, 1) := by decide +kernel
set_option maxRecDepth 20000 in
theorem ggX6_slotNow_X6_beginOf : GoodIn wsX6_slotNow wsX6_beginOf := goodIn_r _ [6, 7, 8, 9, 5, 10, 1, 11, 12, 13, 14, 15, 16, 17, 18, 19, 20, 21, 22, 23] (by decide +kernel) (by decide +kernel)
set_option maxRecDepth 20000 in
theorem gX6_slotNow_X6_beginOf : GoodIn wsX6_slotNow (wsV RX6 77 RX6 yX6_beginOf wsX6_beginOf) := goodIn_app (goodIn_of _ (by decide +kernel)) ggX6_slotNow_X6_beginOf
theorem dX6_slotNow_0 : decode cX6_slotNow 0 = .ok (.iconst 0, 1) := by decide +kernel
theorem dX6_slotNow_1 : decode cX6_slotNow 1 = .ok (.istore_n 1, 1) := by decide +kernel
theorem dX6_slotNow_2 : decode cX6_slotNow 2 = .ok (.aload_n 0, 1) := by decide +kernel
theorem dX6_slotNow_3 : decode cX6_slotNow 3 = .ok (.getfield 7, 3) := by decide +kernel
theorem dX6_slotNow_6 : decode cX6_slotNow 6 = .ok (.iconst 3, 1) := by decide +kernel
theorem dX6_slotNow_7 : decode cX6_slotNow 7 = .ok (.iaload, 1) := by decide +kernel
theorem dX6_slotNow_8 : decode cX6_slotNow 8 = .ok (.aload_n 0, 1) := by decide +kernel
theorem dX6_slotNow_9 : decode cX6_slotNow 9 = .ok (.iload_n 1, 1) := by decide +kernel
theorem dX6_slotNow_10 : decode cX6_slotNow 10 = .ok (.iconst 1, 1) := by decide +kernel
theorem dX6_slotNow_11 : decode cX6_slotNow 11 = .ok (.iadd, 1) := by decide +kernel
theorem dX6_slotNow_12 : decode cX6_slotNow 12 = .ok (.invokevirtual 77, 3) := by decide +kernel
theorem dX6_slotNow_15 : decode cX6_slotNow 15 = .ok (.if_icmp .lt 9, 3) := by decide +kernel
theorem dX6_slotNow_18 : decode cX6_slotNow 18 = .ok (.iinc 1 1, 3) := by decide +kernel
theorem dX6_slotNow_21 : decode cX6_slotNow 21 = .ok (.goto (-19), 3) := by decide +kernel
theorem dX6_slotNow_24 : decode cX6_slotNow 24 = .ok (.iload_n 1, 1) := by decide +kernel
theorem dX6_slotNow_25 : decode cX6_slotNow 25 = .ok (.ireturn, 1) := by decide +kernel
set_option maxRecDepth 20000 in
theorem ggX6_isDriven_X6_beginOf : GoodIn wsX6_isDriven wsX6_beginOf := goodIn_r _ [6, 7, 8, 9, 5, 10, 1, 19, 20, 21, 22, 23, 24, 25, 26, 27, 28, 29, 30, 31] (by decide +kernel) (by decide +kernel)
set_option maxRecDepth 20000 in
theorem gX6_isDriven_X6_beginOf : GoodIn wsX6_isDriven (wsV RX6 77 RX6 yX6_beginOf wsX6_beginOf) := goodIn_app (goodIn_of _ (by decide +kernel)) ggX6_isDriven_X6_beginOf
set_option maxRecDepth 20000 in
theorem ggX6_isDriven_X6_of : GoodIn wsX6_isDriven wsX6_of := goodIn_r _ [10, 1, 19, 20, 21, 22, 23, 24, 25, 26, 27, 28, 29, 30, 31] (by decide +kernel) (by decide +kernel)
set_option maxRecDepth 20000 in
theorem gX6_isDriven_X6_of : GoodIn wsX6_isDriven (wsV RX6 73 RX6 yX6_of wsX6_of) := goodIn_app (goodIn_of _ (by decide +kernel)) ggX6_isDriven_X6_of
set_option maxRecDepth 20000 in
theorem ggX6_isDriven_X6_litPart : GoodIn wsX6_isDriven wsX6_litPart := goodIn_r _ [14, 7, 8, 9, 5, 10, 1, 19, 20, 21, 22, 23, 24, 25, 26, 27, 28, 29, 30, 31] (by decide +kernel) (by decide +kernel)
set_option maxRecDepth 20000 in
theorem gX6_isDriven_X6_litPart : GoodIn wsX6_isDriven (wsV RX6 91 RX6 yX6_litPart wsX6_litPart) := goodIn_app (goodIn_of _ (by decide +kernel)) ggX6_isDriven_X6_litPart
set_option maxRecDepth 20000 in
theorem ggX6_isDriven_X6_isOn : GoodIn wsX6_isDriven wsX6_isOn := goodIn_r _ [18, 1, 19, 20, 21, 22, 23, 24, 25, 26, 27, 28, 29, 30, 31] (by decide +kernel) (by decide +kernel)
set_option maxRecDepth 20000 in
theorem gX6_isDriven_X6_isOn : GoodIn wsX6_isDriven (wsV RX6 101 RX6 yX6_isOn wsX6_isOn) := goodIn_app (goodIn_of _ (by decide +kernel)) ggX6_isDriven_X6_isOn
theorem dX6_isDriven_0 : decode cX6_isDriven 0 = .ok (.aload_n 0, 1) := by decide +kernel
theorem dX6_isDriven_1 : decode cX6_isDriven 1 = .ok (.getfield 7, 3) := by decide +kernel
theorem dX6_isDriven_4 : decode cX6_isDriven 4 = .ok (.iconst 3, 1) := by decide +kernel
theorem dX6_isDriven_5 : decode cX6_isDriven 5 = .ok (.iaload, 1) := by decide +kernel
theorem dX6_isDriven_6 : decode cX6_isDriven 6 = .ok (.aload_n 0, 1) := by decide +kernel
theorem dX6_isDriven_7 : decode cX6_isDriven 7 = .ok (.iload_n 1, 1) := by decide +kernel
theorem dX6_isDriven_8 : decode cX6_isDriven 8 = .ok (.invokevirtual 77, 3) := by decide +kernel
theorem dX6_isDriven_11 : decode cX6_isDriven 11 = .ok (.isub, 1) := by decide +kernel
theorem dX6_isDriven_12 : decode cX6_isDriven 12 = .ok (.istore_n 2, 1) := by decide +kernel
theorem dX6_isDriven_13 : decode cX6_isDriven 13 = .ok (.aload_n 0, 1) := by decide +kernel
theorem dX6_isDriven_14 : decode cX6_isDriven 14 = .ok (.getfield 7, 3) := by decide +kernel
theorem dX6_isDriven_17 : decode cX6_isDriven 17 = .ok (.iconst 4, 1) := by decide +kernel
theorem dX6_isDriven_18 : decode cX6_isDriven 18 = .ok (.iaload, 1) := by decide +kernel
theorem dX6_isDriven_19 : decode cX6_isDriven 19 = .ok (.ifCond .le 26, 3) := by decide +kernel
theorem dX6_isDriven_22 : decode cX6_isDriven 22 = .ok (.iload_n 2, 1) := by decide +kernel
theorem dX6_isDriven_23 : decode cX6_isDriven 23 = .ok (.aload_n 0, 1) := by decide +kernel
theorem dX6_isDriven_24 : decode cX6_isDriven 24 = .ok (.iload_n 1, 1) := by decide +kernel
theorem dX6_isDriven_25 : decode cX6_isDriven 25 = .ok (.iconst 1, 1) := by decide +kernel
theorem dX6_isDriven_26 : decode cX6_isDriven 26 = .ok (.invokevirtual 73, 3) := by decide +kernel
theorem dX6_isDriven_29 : decode cX6_isDriven 29 = .ok (.aload_n 0, 1) := by decide +kernel
theorem dX6_isDriven_30 : decode cX6_isDriven 30 = .ok (.iload_n 1, 1) := by decide +kernel
theorem dX6_isDriven_31 : decode cX6_isDriven 31 = .ok (.iconst 2, 1) := by decide +kernel
theorem dX6_isDriven_32 : decode cX6_isDriven 32 = .ok (.invokevirtual 73, 3) := by decide +kernel
theorem dX6_isDriven_35 : decode cX6_isDriven 35 = .ok (.isub, 1) := by decide +kernel
theorem dX6_isDriven_36 : decode cX6_isDriven 36 = .ok (.if_icmp .ge 7, 3) := by decide +kernel
theorem dX6_isDriven_39 : decode cX6_isDriven 39 = .ok (.iconst 1, 1) := by decide +kernel
theorem dX6_isDriven_40 : decode cX6_isDriven 40 = .ok (.goto 4, 3) := by decide +kernel
theorem dX6_isDriven_43 : decode cX6_isDriven 43 = .ok (.iconst 0, 1) := by decide +kernel
theorem dX6_isDriven_44 : decode cX6_isDriven 44 = .ok (.ireturn, 1) := by decide +kernel
theorem dX6_isDriven_45 : decode cX6_isDriven 45 = .ok (.iload_n 2, 1) := by decide +kernel
theorem dX6_isDriven_46 : decode cX6_isDriven 46 = .ok (.aload_n 0, 1) := by decide +kernel
theorem dX6_isDriven_47 : decode cX6_isDriven 47 = .ok (.iload_n 1, 1) := by decide +kernel
theorem dX6_isDriven_48 : decode cX6_isDriven 48 = .ok (.invokevirtual 91, 3) := by decide +kernel
theorem dX6_isDriven_51 : decode cX6_isDriven 51 = .ok (.if_icmp .ge 20, 3) := by decide +kernel
theorem dX6_isDriven_54 : decode cX6_isDriven 54 = .ok (.aload_n 0, 1) := by decide +kernel
theorem dX6_isDriven_55 : decode cX6_isDriven 55 = .ok (.aload_n 0, 1) := by decide +kernel
theorem dX6_isDriven_56 : decode cX6_isDriven 56 = .ok (.iload_n 1, 1) := by decide +kernel
theorem dX6_isDriven_57 : decode cX6_isDriven 57 = .ok (.iconst 4, 1) := by decide +kernel
theorem dX6_isDriven_58 : decode cX6_isDriven 58 = .ok (.invokevirtual 73, 3) := by decide +kernel
theorem dX6_isDriven_61 : decode cX6_isDriven 61 = .ok (.invokevirtual 101, 3) := by decide +kernel
theorem dX6_isDriven_64 : decode cX6_isDriven 64 = .ok (.ifCond .eq 7, 3) := by decide +kernel
theorem dX6_isDriven_67 : decode cX6_isDriven 67 = .ok (.iconst 1, 1) := by decide +kernel
theorem dX6_isDriven_68 : decode cX6_isDriven 68 = .ok (.goto 4, 3) := by decide +kernel
theorem dX6_isDriven_71 : decode cX6_isDriven 71 = .ok (.iconst 0, 1) := by decide +kernel
theorem dX6_isDriven_72 : decode cX6_isDriven 72 = .ok (.ireturn, 1) := by decide +kernel
set_option maxRecDepth 20000 in
theorem ggX6_litNow_X6_slotNow : GoodIn wsX6_litNow wsX6_slotNow := goodIn_r _ [6, 1, 7, 8, 9, 5, 10, 11, 12, 13, 14, 27, 28, 29, 30, 31, 32, 33, 34, 35, 36, 37, 38, 39] (by decide +kernel) (by decide +kernel)
set_option maxRecDepth 20000 in
theorem gX6_litNow_X6_slotNow : GoodIn wsX6_litNow (wsV RX6 104 RX6 yX6_slotNow wsX6_slotNow) := goodIn_app (goodIn_of _ (by decide +kernel)) ggX6_litNow_X6_slotNow
set_option maxRecDepth 20000 in
theorem ggX6_litNow_X6_isDriven : GoodIn wsX6_litNow wsX6_isDriven := goodIn_r _ [18, 1, 7, 8, 9, 5, 10, 11, 12, 13, 14, 19, 20, 21, 22, 23, 24, 25, 26, 27, 28, 29, 30, 31, 32, 33, 34, 35, 36, 37, 38, 39] (by decide +kernel) (by decide +kernel)
set_option maxRecDepth 20000 in
theorem gX6_litNow_X6_isDriven : GoodIn wsX6_litNow (wsV RX6 107 RX6 yX6_isDriven wsX6_isDriven) := goodIn_app (goodIn_of _ (by decide +kernel)) ggX6_litNow_X6_isDriven
set_option maxRecDepth 20000 in
theorem ggX6_litNow_X6_of : GoodIn wsX6_litNow wsX6_of := goodIn_r _ [14, 1, 27, 28, 29, 30, 31, 32, 33, 34, 35, 36, 37, 38, 39] (by decide +kernel) (by decide +kernel)
set_option maxRecDepth 20000 in
theorem gX6_litNow_X6_of : GoodIn wsX6_litNow (wsV RX6 73 RX6 yX6_of wsX6_of) := goodIn_app (goodIn_of _ (by decide +kernel)) ggX6_litNow_X6_of
theorem dX6_litNow_0 : decode cX6_litNow 0 = .ok (.aload_n 0, 1) := by decide +kernel
theorem dX6_litNow_1 : decode cX6_litNow 1 = .ok (.invokevirtual 104, 3) := by decide +kernel
theorem dX6_litNow_4 : decode cX6_litNow 4 = .ok (.iload_n 1, 1) := by decide +kernel
theorem dX6_litNow_5 : decode cX6_litNow 5 = .ok (.if_icmp .ne 15, 3) := by decide +kernel
theorem dX6_litNow_8 : decode cX6_litNow 8 = .ok (.aload_n 0, 1) := by decide +kernel
theorem dX6_litNow_9 : decode cX6_litNow 9 = .ok (.iload_n 1, 1) := by decide +kernel
theorem dX6_litNow_10 : decode cX6_litNow 10 = .ok (.invokevirtual 107, 3) := by decide +kernel
theorem dX6_litNow_13 : decode cX6_litNow 13 = .ok (.ifCond .eq 7, 3) := by decide +kernel
theorem dX6_litNow_16 : decode cX6_litNow 16 = .ok (.iconst 1, 1) := by decide +kernel
theorem dX6_litNow_17 : decode cX6_litNow 17 = .ok (.goto 4, 3) := by decide +kernel
theorem dX6_litNow_20 : decode cX6_litNow 20 = .ok (.iconst 0, 1) := by decide +kernel
theorem dX6_litNow_21 : decode cX6_litNow 21 = .ok (.istore_n 2, 1) := by decide +kernel
theorem dX6_litNow_22 : decode cX6_litNow 22 = .ok (.iload_n 2, 1) := by decide +kernel
theorem dX6_litNow_23 : decode cX6_litNow 23 = .ok (.ifCond .ne 7, 3) := by decide +kernel
theorem dX6_litNow_26 : decode cX6_litNow 26 = .ok (.iconst 0, 1) := by decide +kernel
theorem dX6_litNow_27 : decode cX6_litNow 27 = .ok (.goto 37, 3) := by decide +kernel
theorem dX6_litNow_30 : decode cX6_litNow 30 = .ok (.aload_n 0, 1) := by decide +kernel
theorem dX6_litNow_31 : decode cX6_litNow 31 = .ok (.getfield 7, 3) := by decide +kernel
theorem dX6_litNow_34 : decode cX6_litNow 34 = .ok (.iconst 4, 1) := by decide +kernel
theorem dX6_litNow_35 : decode cX6_litNow 35 = .ok (.iaload, 1) := by decide +kernel
theorem dX6_litNow_36 : decode cX6_litNow 36 = .ok (.ifCond .le 9, 3) := by decide +kernel
theorem dX6_litNow_39 : decode cX6_litNow 39 = .ok (.sipush 255, 3) := by decide +kernel
theorem dX6_litNow_42 : decode cX6_litNow 42 = .ok (.goto 9, 3) := by decide +kernel
theorem dX6_litNow_45 : decode cX6_litNow 45 = .ok (.aload_n 0, 1) := by decide +kernel
theorem dX6_litNow_46 : decode cX6_litNow 46 = .ok (.iload_n 1, 1) := by decide +kernel
theorem dX6_litNow_47 : decode cX6_litNow 47 = .ok (.iconst 0, 1) := by decide +kernel
theorem dX6_litNow_48 : decode cX6_litNow 48 = .ok (.invokevirtual 73, 3) := by decide +kernel
theorem dX6_litNow_51 : decode cX6_litNow 51 = .ok (.aload_n 0, 1) := by decide +kernel
theorem dX6_litNow_52 : decode cX6_litNow 52 = .ok (.getfield 7, 3) := by decide +kernel
theorem dX6_litNow_55 : decode cX6_litNow 55 = .ok (.sipush 192, 3) := by decide +kernel
theorem dX6_litNow_58 : decode cX6_litNow 58 = .ok (.iload_n 1, 1) := by decide +kernel
theorem dX6_litNow_59 : decode cX6_litNow 59 = .ok (.iadd, 1) := by decide +kernel
theorem dX6_litNow_60 : decode cX6_litNow 60 = .ok (.iaload, 1) := by decide +kernel
theorem dX6_litNow_61 : decode cX6_litNow 61 = .ok (.iconst (-1), 1) := by decide +kernel
theorem dX6_litNow_62 : decode cX6_litNow 62 = .ok (.ixor, 1) := by decide +kernel
theorem dX6_litNow_63 : decode cX6_litNow 63 = .ok (.iand, 1) := by decide +kernel
theorem dX6_litNow_64 : decode cX6_litNow 64 = .ok (.ireturn, 1) := by decide +kernel
theorem dX6_brighter_0 : decode cX6_brighter 0 = .ok (.sipush 1000, 3) := by decide +kernel
theorem dX6_brighter_3 : decode cX6_brighter 3 = .ok (.iload_n 0, 1) := by decide +kernel
theorem dX6_brighter_4 : decode cX6_brighter 4 = .ok (.isub, 1) := by decide +kernel
theorem dX6_brighter_5 : decode cX6_brighter 5 = .ok (.iconst 4, 1) := by decide +kernel
theorem dX6_brighter_6 : decode cX6_brighter 6 = .ok (.idiv, 1) := by decide +kernel
theorem dX6_brighter_7 : decode cX6_brighter 7 = .ok (.istore_n 1, 1) := by decide +kernel
theorem dX6_brighter_8 : decode cX6_brighter 8 = .ok (.iload_n 0, 1) := by decide +kernel
theorem dX6_brighter_9 : decode cX6_brighter 9 = .ok (.iload_n 1, 1) := by decide +kernel
theorem dX6_brighter_10 : decode cX6_brighter 10 = .ok (.iconst 1, 1) := by decide +kernel
theorem dX6_brighter_11 : decode cX6_brighter 11 = .ok (.if_icmp .ge 7, 3) := by decide +kernel
theorem dX6_brighter_14 : decode cX6_brighter 14 = .ok (.iconst 1, 1) := by decide +kernel
theorem dX6_brighter_15 : decode cX6_brighter 15 = .ok (.goto 4, 3) := by decide +kernel
theorem dX6_brighter_18 : decode cX6_brighter 18 = .ok (.iload_n 1, 1) := by decide +kernel
theorem dX6_brighter_19 : decode cX6_brighter 19 = .ok (.iadd, 1) := by decide +kernel
theorem dX6_brighter_20 : decode cX6_brighter 20 = .ok (.istore_n 2, 1) := by decide +kernel
theorem dX6_brighter_21 : decode cX6_brighter 21 = .ok (.iload_n 2, 1) := by decide +kernel
theorem dX6_brighter_22 : decode cX6_brighter 22 = .ok (.sipush 1000, 3) := by decide +kernel
theorem dX6_brighter_25 : decode cX6_brighter 25 = .ok (.if_icmp .le 9, 3) := by decide +kernel
theorem dX6_brighter_28 : decode cX6_brighter 28 = .ok (.sipush 1000, 3) := by decide +kernel
theorem dX6_brighter_31 : decode cX6_brighter 31 = .ok (.goto 4, 3) := by decide +kernel
theorem dX6_brighter_34 : decode cX6_brighter 34 = .ok (.iload_n 2, 1) := by decide +kernel
theorem dX6_brighter_35 : decode cX6_brighter 35 = .ok (.ireturn, 1) := by decide +kernel
theorem dX6_darker_0 : decode cX6_darker 0 = .ok (.iload_n 1, 1) := by decide +kernel
theorem dX6_darker_1 : decode cX6_darker 1 = .ok (.iload_n 1, 1) := by decide +kernel
theorem dX6_darker_2 : decode cX6_darker 2 = .ok (.aload_n 0, 1) := by decide +kernel
theorem dX6_darker_3 : decode cX6_darker 3 = .ok (.getfield 7, 3) := by decide +kernel
theorem dX6_darker_6 : decode cX6_darker 6 = .ok (.bipush 6, 2) := by decide +kernel
theorem dX6_darker_8 : decode cX6_darker 8 = .ok (.iaload, 1) := by decide +kernel
theorem dX6_darker_9 : decode cX6_darker 9 = .ok (.idiv, 1) := by decide +kernel
theorem dX6_darker_10 : decode cX6_darker 10 = .ok (.isub, 1) := by decide +kernel
theorem dX6_darker_11 : decode cX6_darker 11 = .ok (.iconst 1, 1) := by decide +kernel
theorem dX6_darker_12 : decode cX6_darker 12 = .ok (.isub, 1) := by decide +kernel
theorem dX6_darker_13 : decode cX6_darker 13 = .ok (.istore_n 2, 1) := by decide +kernel
theorem dX6_darker_14 : decode cX6_darker 14 = .ok (.iload_n 2, 1) := by decide +kernel
theorem dX6_darker_15 : decode cX6_darker 15 = .ok (.ifCond .ge 7, 3) := by decide +kernel
theorem dX6_darker_18 : decode cX6_darker 18 = .ok (.iconst 0, 1) := by decide +kernel
theorem dX6_darker_19 : decode cX6_darker 19 = .ok (.goto 4, 3) := by decide +kernel
theorem dX6_darker_22 : decode cX6_darker 22 = .ok (.iload_n 2, 1) := by decide +kernel
theorem dX6_darker_23 : decode cX6_darker 23 = .ok (.ireturn, 1) := by decide +kernel
set_option maxRecDepth 20000 in
theorem ggX6_light_X6_brighter : GoodIn wsX6_light wsX6_brighter := goodIn_r _ [5] (by decide +kernel) (by decide +kernel)
set_option maxRecDepth 20000 in
theorem gX6_light_X6_brighter : GoodIn wsX6_light (va_wsS RX6 110 yX6_brighter wsX6_brighter) := goodIn_app (goodIn_of _ (by decide +kernel)) ggX6_light_X6_brighter
set_option maxRecDepth 20000 in
theorem ggX6_light_X6_darker : GoodIn wsX6_light wsX6_darker := goodIn_r _ [9, 1, 10, 11, 12, 13, 14, 15, 16, 17, 18, 19, 20, 21, 22] (by decide +kernel) (by decide +kernel)
set_option maxRecDepth 20000 in
theorem gX6_light_X6_darker : GoodIn wsX6_light (wsV RX6 113 RX6 yX6_darker wsX6_darker) := goodIn_app (goodIn_of _ (by decide +kernel)) ggX6_light_X6_darker
theorem dX6_light_0 : decode cX6_light 0 = .ok (.bipush 8, 2) := by decide +kernel
theorem dX6_light_2 : decode cX6_light 2 = .ok (.iload_n 1, 1) := by decide +kernel
theorem dX6_light_3 : decode cX6_light 3 = .ok (.imul, 1) := by decide +kernel
theorem dX6_light_4 : decode cX6_light 4 = .ok (.iload_n 2, 1) := by decide +kernel
theorem dX6_light_5 : decode cX6_light 5 = .ok (.iadd, 1) := by decide +kernel
theorem dX6_light_6 : decode cX6_light 6 = .ok (.istore 4, 2) := by decide +kernel
theorem dX6_light_8 : decode cX6_light 8 = .ok (.aload_n 0, 1) := by decide +kernel
theorem dX6_light_9 : decode cX6_light 9 = .ok (.getfield 7, 3) := by decide +kernel
theorem dX6_light_12 : decode cX6_light 12 = .ok (.bipush 64, 2) := by decide +kernel
theorem dX6_light_14 : decode cX6_light 14 = .ok (.iload 4, 2) := by decide +kernel
theorem dX6_light_16 : decode cX6_light 16 = .ok (.iadd, 1) := by decide +kernel
theorem dX6_light_17 : decode cX6_light 17 = .ok (.iload_n 3, 1) := by decide +kernel
theorem dX6_light_18 : decode cX6_light 18 = .ok (.ifCond .eq 19, 3) := by decide +kernel
theorem dX6_light_21 : decode cX6_light 21 = .ok (.aload_n 0, 1) := by decide +kernel
theorem dX6_light_22 : decode cX6_light 22 = .ok (.getfield 7, 3) := by decide +kernel
theorem dX6_light_25 : decode cX6_light 25 = .ok (.bipush 64, 2) := by decide +kernel
theorem dX6_light_27 : decode cX6_light 27 = .ok (.iload 4, 2) := by decide +kernel
theorem dX6_light_29 : decode cX6_light 29 = .ok (.iadd, 1) := by decide +kernel
theorem dX6_light_30 : decode cX6_light 30 = .ok (.iaload, 1) := by decide +kernel
theorem dX6_light_31 : decode cX6_light 31 = .ok (.invokestatic 110, 3) := by decide +kernel
theorem dX6_light_34 : decode cX6_light 34 = .ok (.goto 17, 3) := by decide +kernel
theorem dX6_light_37 : decode cX6_light 37 = .ok (.aload_n 0, 1) := by decide +kernel
theorem dX6_light_38 : decode cX6_light 38 = .ok (.aload_n 0, 1) := by decide +kernel
theorem dX6_light_39 : decode cX6_light 39 = .ok (.getfield 7, 3) := by decide +kernel
theorem dX6_light_42 : decode cX6_light 42 = .ok (.bipush 64, 2) := by decide +kernel
theorem dX6_light_44 : decode cX6_light 44 = .ok (.iload 4, 2) := by decide +kernel
theorem dX6_light_46 : decode cX6_light 46 = .ok (.iadd, 1) := by decide +kernel
theorem dX6_light_47 : decode cX6_light 47 = .ok (.iaload, 1) := by decide +kernel
theorem dX6_light_48 : decode cX6_light 48 = .ok (.invokevirtual 113, 3) := by decide +kernel
theorem dX6_light_51 : decode cX6_light 51 = .ok (.iastore, 1) := by decide +kernel
theorem dX6_light_52 : decode cX6_light 52 = .ok (.iload_n 3, 1) := by decide +kernel
theorem dX6_light_53 : decode cX6_light 53 = .ok (.ifCond .eq 55, 3) := by decide +kernel
theorem dX6_light_56 : decode cX6_light 56 = .ok (.aload_n 0, 1) := by decide +kernel
theorem dX6_light_57 : decode cX6_light 57 = .ok (.getfield 7, 3) := by decide +kernel
theorem dX6_light_60 : decode cX6_light 60 = .ok (.sipush 128, 3) := by decide +kernel
theorem dX6_light_63 : decode cX6_light 63 = .ok (.iload 4, 2) := by decide +kernel
theorem dX6_light_65 : decode cX6_light 65 = .ok (.iadd, 1) := by decide +kernel
theorem dX6_light_66 : decode cX6_light 66 = .ok (.dup2, 1) := by decide +kernel
theorem dX6_light_67 : decode cX6_light 67 = .ok (.iaload, 1) := by decide +kernel
theorem dX6_light_68 : decode cX6_light 68 = .ok (.iconst 1, 1) := by decide +kernel
theorem dX6_light_69 : decode cX6_light 69 = .ok (.iadd, 1) := by decide +kernel
theorem dX6_light_70 : decode cX6_light 70 = .ok (.iastore, 1) := by decide +kernel
theorem dX6_light_71 : decode cX6_light 71 = .ok (.aload_n 0, 1) := by decide +kernel
theorem dX6_light_72 : decode cX6_light 72 = .ok (.getfield 7, 3) := by decide +kernel
theorem dX6_light_75 : decode cX6_light 75 = .ok (.sipush 128, 3) := by decide +kernel
theorem dX6_light_78 : decode cX6_light 78 = .ok (.iload 4, 2) := by decide +kernel
theorem dX6_light_80 : decode cX6_light 80 = .ok (.iadd, 1) := by decide +kernel
theorem dX6_light_81 : decode cX6_light 81 = .ok (.iaload, 1) := by decide +kernel
theorem dX6_light_82 : decode cX6_light 82 = .ok (.aload_n 0, 1) := by decide +kernel
theorem dX6_light_83 : decode cX6_light 83 = .ok (.getfield 7, 3) := by decide +kernel
theorem dX6_light_86 : decode cX6_light 86 = .ok (.bipush 8, 2) := by decide +kernel
theorem dX6_light_88 : decode cX6_light 88 = .ok (.iaload, 1) := by decide +kernel
theorem dX6_light_89 : decode cX6_light 89 = .ok (.if_icmp .lt 19, 3) := by decide +kernel
theorem dX6_light_92 : decode cX6_light 92 = .ok (.aload_n 0, 1) := by decide +kernel
theorem dX6_light_93 : decode cX6_light 93 = .ok (.getfield 7, 3) := by decide +kernel
theorem dX6_light_96 : decode cX6_light 96 = .ok (.sipush 192, 3) := by decide +kernel
theorem dX6_light_99 : decode cX6_light 99 = .ok (.iload_n 1, 1) := by decide +kernel
theorem dX6_light_100 : decode cX6_light 100 = .ok (.iadd, 1) := by decide +kernel
theorem dX6_light_101 : decode cX6_light 101 = .ok (.dup2, 1) := by decide +kernel
theorem dX6_light_102 : decode cX6_light 102 = .ok (.iaload, 1) := by decide +kernel
theorem dX6_light_103 : decode cX6_light 103 = .ok (.iconst 1, 1) := by decide +kernel
theorem dX6_light_104 : decode cX6_light 104 = .ok (.iload_n 2, 1) := by decide +kernel
theorem dX6_light_105 : decode cX6_light 105 = .ok (.ishl, 1) := by decide +kernel
theorem dX6_light_106 : decode cX6_light 106 = .ok (.ior, 1) := by decide +kernel
theorem dX6_light_107 : decode cX6_light 107 = .ok (.iastore, 1) := by decide +kernel
theorem dX6_light_108 : decode cX6_light 108 = .ok (.return_, 1) := by decide +kernel
set_option maxRecDepth 20000 in
theorem ggX6_tick_X6_slotNow : GoodIn wsX6_tick wsX6_slotNow := goodIn_r _ [10, 1, 11, 12, 13, 9, 14, 15, 16, 17, 18, 58, 59, 60, 61, 62, 63, 64, 65, 66, 67, 68, 69, 70] (by decide +kernel) (by decide +kernel)
set_option maxRecDepth 20000 in
theorem gX6_tick_X6_slotNow : GoodIn wsX6_tick (wsV RX6 104 RX6 yX6_slotNow wsX6_slotNow) := goodIn_app (goodIn_of _ (by decide +kernel)) ggX6_tick_X6_slotNow
set_option maxRecDepth 20000 in
theorem ggX6_tick_X6_litNow : GoodIn wsX6_tick wsX6_litNow := goodIn_r _ [22, 1, 6, 7, 8, 9, 10, 11, 12, 13, 14, 15, 16, 17, 18, 23, 24, 25, 26, 27, 28, 29, 30, 31, 32, 33, 34, 58, 59, 60, 61, 62, 63, 64, 65, 66, 67, 68, 69, 70] (by decide +kernel) (by decide +kernel)
set_option maxRecDepth 20000 in
theorem gX6_tick_X6_litNow : GoodIn wsX6_tick (wsV RX6 116 RX6 yX6_litNow wsX6_litNow) := goodIn_app (goodIn_of _ (by decide +kernel)) ggX6_tick_X6_litNow
set_option maxRecDepth 20000 in
theorem ggX6_tick_X6_isDriven : GoodIn wsX6_tick wsX6_isDriven := goodIn_r _ [26, 1, 11, 12, 13, 9, 14, 15, 16, 17, 18, 27, 28, 29, 30, 31, 32, 33, 34, 58, 59, 60, 61, 62, 63, 64, 65, 66, 67, 68, 69, 70] (by decide +kernel) (by decide +kernel)
set_option maxRecDepth 20000 in
theorem gX6_tick_X6_isDriven : GoodIn wsX6_tick (wsV RX6 107 RX6 yX6_isDriven wsX6_isDriven) := goodIn_app (goodIn_of _ (by decide +kernel)) ggX6_tick_X6_isDriven
set_option maxRecDepth 20000 in
theorem ggX6_tick_X6_of : GoodIn wsX6_tick wsX6_of := goodIn_r _ [18, 1, 58, 59, 60, 61, 62, 63, 64, 65, 66, 67, 68, 69, 70] (by decide +kernel) (by decide +kernel)
set_option maxRecDepth 20000 in
theorem gX6_tick_X6_of : GoodIn wsX6_tick (wsV RX6 73 RX6 yX6_of wsX6_of) := goodIn_app (goodIn_of _ (by decide +kernel)) ggX6_tick_X6_of
set_option maxRecDepth 20000 in
theorem ggX6_tick_X6_put : GoodIn wsX6_tick wsX6_put := goodIn_r _ [38, 1, 58, 59, 60, 61, 62, 63, 64, 65, 66, 67, 68, 69, 70] (by decide +kernel) (by decide +kernel)
set_option maxRecDepth 20000 in
theorem gX6_tick_X6_put : GoodIn wsX6_tick (wsV RX6 66 RX6 yX6_put wsX6_put) := goodIn_app (goodIn_of _ (by decide +kernel)) ggX6_tick_X6_put
set_option maxRecDepth 20000 in
theorem ggX6_tick_X6_light : GoodIn wsX6_tick wsX6_light := goodIn_r _ [42, 1, 43, 44, 9, 45, 46, 47, 48, 49, 58, 59, 60, 61, 62, 63, 64, 65, 66, 67, 68, 69, 70] (by decide +kernel) (by decide +kernel)
set_option maxRecDepth 20000 in
theorem gX6_tick_X6_light : GoodIn wsX6_tick (wsV RX6 119 RX6 yX6_light wsX6_light) := goodIn_app (goodIn_of _ (by decide +kernel)) ggX6_tick_X6_light
set_option maxRecDepth 20000 in
theorem ggX6_tick_X6_frameLength : GoodIn wsX6_tick wsX6_frameLength := goodIn_r _ [53, 1, 11, 12, 13, 9, 14, 15, 16, 17, 18, 58, 59, 60, 61, 62, 63, 64, 65, 66, 67, 68, 69, 70] (by decide +kernel) (by decide +kernel)
set_option maxRecDepth 20000 in
theorem gX6_tick_X6_frameLength : GoodIn wsX6_tick (wsV RX6 87 RX6 yX6_frameLength wsX6_frameLength) := goodIn_app (goodIn_of _ (by decide +kernel)) ggX6_tick_X6_frameLength
set_option maxRecDepth 20000 in
theorem ggX6_tick_X6_endFrame : GoodIn wsX6_tick wsX6_endFrame := goodIn_r _ [57, 1, 58, 59, 60, 61, 62, 63, 64, 65, 66, 67, 68, 69, 70] (by decide +kernel) (by decide +kernel)
set_option maxRecDepth 20000 in
theorem gX6_tick_X6_endFrame : GoodIn wsX6_tick (wsV RX6 80 RX6 yX6_endFrame wsX6_endFrame) := goodIn_app (goodIn_of _ (by decide +kernel)) ggX6_tick_X6_endFrame
theorem dX6_tick_0 : decode cX6_tick 0 = .ok (.aload_n 0, 1) := by decide +kernel
theorem dX6_tick_1 : decode cX6_tick 1 = .ok (.invokevirtual 104, 3) := by decide +kernel
theorem dX6_tick_4 : decode cX6_tick 4 = .ok (.istore_n 1, 1) := by decide +kernel
theorem dX6_tick_5 : decode cX6_tick 5 = .ok (.aload_n 0, 1) := by decide +kernel
theorem dX6_tick_6 : decode cX6_tick 6 = .ok (.iload_n 1, 1) := by decide +kernel
theorem dX6_tick_7 : decode cX6_tick 7 = .ok (.invokevirtual 116, 3) := by decide +kernel
theorem dX6_tick_10 : decode cX6_tick 10 = .ok (.istore_n 2, 1) := by decide +kernel
theorem dX6_tick_11 : decode cX6_tick 11 = .ok (.iconst 0, 1) := by decide +kernel
theorem dX6_tick_12 : decode cX6_tick 12 = .ok (.istore_n 3, 1) := by decide +kernel
theorem dX6_tick_13 : decode cX6_tick 13 = .ok (.aload_n 0, 1) := by decide +kernel
theorem dX6_tick_14 : decode cX6_tick 14 = .ok (.iload_n 1, 1) := by decide +kernel
theorem dX6_tick_15 : decode cX6_tick 15 = .ok (.invokevirtual 107, 3) := by decide +kernel
theorem dX6_tick_18 : decode cX6_tick 18 = .ok (.ifCond .eq 27, 3) := by decide +kernel
theorem dX6_tick_21 : decode cX6_tick 21 = .ok (.aload_n 0, 1) := by decide +kernel
theorem dX6_tick_22 : decode cX6_tick 22 = .ok (.getfield 7, 3) := by decide +kernel
theorem dX6_tick_25 : decode cX6_tick 25 = .ok (.iconst 5, 1) := by decide +kernel
theorem dX6_tick_26 : decode cX6_tick 26 = .ok (.dup2, 1) := by decide +kernel
theorem dX6_tick_27 : decode cX6_tick 27 = .ok (.iaload, 1) := by decide +kernel
theorem dX6_tick_28 : decode cX6_tick 28 = .ok (.iconst 1, 1) := by decide +kernel
theorem dX6_tick_29 : decode cX6_tick 29 = .ok (.iadd, 1) := by decide +kernel
theorem dX6_tick_30 : decode cX6_tick 30 = .ok (.iastore, 1) := by decide +kernel
theorem dX6_tick_31 : decode cX6_tick 31 = .ok (.aload_n 0, 1) := by decide +kernel
theorem dX6_tick_32 : decode cX6_tick 32 = .ok (.iload_n 1, 1) := by decide +kernel
theorem dX6_tick_33 : decode cX6_tick 33 = .ok (.iconst 5, 1) := by decide +kernel
theorem dX6_tick_34 : decode cX6_tick 34 = .ok (.aload_n 0, 1) := by decide +kernel
theorem dX6_tick_35 : decode cX6_tick 35 = .ok (.iload_n 1, 1) := by decide +kernel
theorem dX6_tick_36 : decode cX6_tick 36 = .ok (.iconst 5, 1) := by decide +kernel
theorem dX6_tick_37 : decode cX6_tick 37 = .ok (.invokevirtual 73, 3) := by decide +kernel
theorem dX6_tick_40 : decode cX6_tick 40 = .ok (.iconst 1, 1) := by decide +kernel
theorem dX6_tick_41 : decode cX6_tick 41 = .ok (.iadd, 1) := by decide +kernel
theorem dX6_tick_42 : decode cX6_tick 42 = .ok (.invokevirtual 66, 3) := by decide +kernel
theorem dX6_tick_45 : decode cX6_tick 45 = .ok (.iconst 0, 1) := by decide +kernel
theorem dX6_tick_46 : decode cX6_tick 46 = .ok (.istore 4, 2) := by decide +kernel
theorem dX6_tick_48 : decode cX6_tick 48 = .ok (.iload 4, 2) := by decide +kernel
theorem dX6_tick_50 : decode cX6_tick 50 = .ok (.aload_n 0, 1) := by decide +kernel
theorem dX6_tick_51 : decode cX6_tick 51 = .ok (.getfield 7, 3) := by decide +kernel
theorem dX6_tick_54 : decode cX6_tick 54 = .ok (.iconst 0, 1) := by decide +kernel
theorem dX6_tick_55 : decode cX6_tick 55 = .ok (.iaload, 1) := by decide +kernel
theorem dX6_tick_56 : decode cX6_tick 56 = .ok (.if_icmp .ge 71, 3) := by decide +kernel
theorem dX6_tick_59 : decode cX6_tick 59 = .ok (.iconst 0, 1) := by decide +kernel
theorem dX6_tick_60 : decode cX6_tick 60 = .ok (.istore 5, 2) := by decide +kernel
theorem dX6_tick_62 : decode cX6_tick 62 = .ok (.iload 5, 2) := by decide +kernel
theorem dX6_tick_64 : decode cX6_tick 64 = .ok (.bipush 8, 2) := by decide +kernel
theorem dX6_tick_66 : decode cX6_tick 66 = .ok (.if_icmp .ge 55, 3) := by decide +kernel
theorem dX6_tick_69 : decode cX6_tick 69 = .ok (.iload 4, 2) := by decide +kernel
theorem dX6_tick_71 : decode cX6_tick 71 = .ok (.iload_n 1, 1) := by decide +kernel
theorem dX6_tick_72 : decode cX6_tick 72 = .ok (.if_icmp .ne 17, 3) := by decide +kernel
theorem dX6_tick_75 : decode cX6_tick 75 = .ok (.iload_n 2, 1) := by decide +kernel
theorem dX6_tick_76 : decode cX6_tick 76 = .ok (.iload 5, 2) := by decide +kernel
theorem dX6_tick_78 : decode cX6_tick 78 = .ok (.ishr, 1) := by decide +kernel
theorem dX6_tick_79 : decode cX6_tick 79 = .ok (.iconst 1, 1) := by decide +kernel
theorem dX6_tick_80 : decode cX6_tick 80 = .ok (.iand, 1) := by decide +kernel
theorem dX6_tick_81 : decode cX6_tick 81 = .ok (.iconst 1, 1) := by decide +kernel
theorem dX6_tick_82 : decode cX6_tick 82 = .ok (.if_icmp .ne 7, 3) := by decide +kernel
theorem dX6_tick_85 : decode cX6_tick 85 = .ok (.iconst 1, 1) := by decide +kernel
theorem dX6_tick_86 : decode cX6_tick 86 = .ok (.goto 4, 3) := by decide +kernel
theorem dX6_tick_89 : decode cX6_tick 89 = .ok (.iconst 0, 1) := by decide +kernel
theorem dX6_tick_90 : decode cX6_tick 90 = .ok (.istore 6, 2) := by decide +kernel
theorem dX6_tick_92 : decode cX6_tick 92 = .ok (.iload_n 3, 1) := by decide +kernel
theorem dX6_tick_93 : decode cX6_tick 93 = .ok (.iload 6, 2) := by decide +kernel
theorem dX6_tick_95 : decode cX6_tick 95 = .ok (.ifCond .eq 7, 3) := by decide +kernel
theorem dX6_tick_98 : decode cX6_tick 98 = .ok (.iconst 1, 1) := by decide +kernel
theorem dX6_tick_99 : decode cX6_tick 99 = .ok (.goto 4, 3) := by decide +kernel
theorem dX6_tick_102 : decode cX6_tick 102 = .ok (.iconst 0, 1) := by decide +kernel
theorem dX6_tick_103 : decode cX6_tick 103 = .ok (.iadd, 1) := by decide +kernel
theorem dX6_tick_104 : decode cX6_tick 104 = .ok (.istore_n 3, 1) := by decide +kernel
theorem dX6_tick_105 : decode cX6_tick 105 = .ok (.aload_n 0, 1) := by decide +kernel
theorem dX6_tick_106 : decode cX6_tick 106 = .ok (.iload 4, 2) := by decide +kernel
theorem dX6_tick_108 : decode cX6_tick 108 = .ok (.iload 5, 2) := by decide +kernel
theorem dX6_tick_110 : decode cX6_tick 110 = .ok (.iload 6, 2) := by decide +kernel
theorem dX6_tick_112 : decode cX6_tick 112 = .ok (.invokevirtual 119, 3) := by decide +kernel
theorem dX6_tick_115 : decode cX6_tick 115 = .ok (.iinc 5 1, 3) := by decide +kernel
theorem dX6_tick_118 : decode cX6_tick 118 = .ok (.goto (-56), 3) := by decide +kernel
theorem dX6_tick_121 : decode cX6_tick 121 = .ok (.iinc 4 1, 3) := by decide +kernel
theorem dX6_tick_124 : decode cX6_tick 124 = .ok (.goto (-76), 3) := by decide +kernel
theorem dX6_tick_127 : decode cX6_tick 127 = .ok (.aload_n 0, 1) := by decide +kernel
theorem dX6_tick_128 : decode cX6_tick 128 = .ok (.getfield 13, 3) := by decide +kernel
theorem dX6_tick_131 : decode cX6_tick 131 = .ok (.iconst 0, 1) := by decide +kernel
theorem dX6_tick_132 : decode cX6_tick 132 = .ok (.aload_n 0, 1) := by decide +kernel
theorem dX6_tick_133 : decode cX6_tick 133 = .ok (.getfield 13, 3) := by decide +kernel
theorem dX6_tick_136 : decode cX6_tick 136 = .ok (.iconst 0, 1) := by decide +kernel
theorem dX6_tick_137 : decode cX6_tick 137 = .ok (.faload, 1) := by decide +kernel
theorem dX6_tick_138 : decode cX6_tick 138 = .ok (.iload_n 3, 1) := by decide +kernel
theorem dX6_tick_139 : decode cX6_tick 139 = .ok (.i2f, 1) := by decide +kernel
theorem dX6_tick_140 : decode cX6_tick 140 = .ok (.ldc 123, 2) := by decide +kernel
theorem dX6_tick_142 : decode cX6_tick 142 = .ok (.fmul, 1) := by decide +kernel
theorem dX6_tick_143 : decode cX6_tick 143 = .ok (.aload_n 0, 1) := by decide +kernel
theorem dX6_tick_144 : decode cX6_tick 144 = .ok (.getfield 13, 3) := by decide +kernel
theorem dX6_tick_147 : decode cX6_tick 147 = .ok (.iconst 0, 1) := by decide +kernel
theorem dX6_tick_148 : decode cX6_tick 148 = .ok (.faload, 1) := by decide +kernel
theorem dX6_tick_149 : decode cX6_tick 149 = .ok (.fsub, 1) := by decide +kernel
theorem dX6_tick_150 : decode cX6_tick 150 = .ok (.ldc 124, 2) := by decide +kernel
theorem dX6_tick_152 : decode cX6_tick 152 = .ok (.fmul, 1) := by decide +kernel
theorem dX6_tick_153 : decode cX6_tick 153 = .ok (.fadd, 1) := by decide +kernel
theorem dX6_tick_154 : decode cX6_tick 154 = .ok (.fastore, 1) := by decide +kernel
theorem dX6_tick_155 : decode cX6_tick 155 = .ok (.aload_n 0, 1) := by decide +kernel
theorem dX6_tick_156 : decode cX6_tick 156 = .ok (.getfield 13, 3) := by decide +kernel
theorem dX6_tick_159 : decode cX6_tick 159 = .ok (.iconst 1, 1) := by decide +kernel
theorem dX6_tick_160 : decode cX6_tick 160 = .ok (.aload_n 0, 1) := by decide +kernel
theorem dX6_tick_161 : decode cX6_tick 161 = .ok (.getfield 13, 3) := by decide +kernel
theorem dX6_tick_164 : decode cX6_tick 164 = .ok (.iconst 0, 1) := by decide +kernel
theorem dX6_tick_165 : decode cX6_tick 165 = .ok (.faload, 1) := by decide +kernel
theorem dX6_tick_166 : decode cX6_tick 166 = .ok (.aload_n 0, 1) := by decide +kernel
theorem dX6_tick_167 : decode cX6_tick 167 = .ok (.getfield 13, 3) := by decide +kernel
theorem dX6_tick_170 : decode cX6_tick 170 = .ok (.iconst 1, 1) := by decide +kernel
theorem dX6_tick_171 : decode cX6_tick 171 = .ok (.faload, 1) := by decide +kernel
theorem dX6_tick_172 : decode cX6_tick 172 = .ok (.fcmp .l, 1) := by decide +kernel
theorem dX6_tick_173 : decode cX6_tick 173 = .ok (.ifCond .le 12, 3) := by decide +kernel
theorem dX6_tick_176 : decode cX6_tick 176 = .ok (.aload_n 0, 1) := by decide +kernel
theorem dX6_tick_177 : decode cX6_tick 177 = .ok (.getfield 13, 3) := by decide +kernel
theorem dX6_tick_180 : decode cX6_tick 180 = .ok (.iconst 0, 1) := by decide +kernel
theorem dX6_tick_181 : decode cX6_tick 181 = .ok (.faload, 1) := by decide +kernel
theorem dX6_tick_182 : decode cX6_tick 182 = .ok (.goto 9, 3) := by decide +kernel
theorem dX6_tick_185 : decode cX6_tick 185 = .ok (.aload_n 0, 1) := by decide +kernel
theorem dX6_tick_186 : decode cX6_tick 186 = .ok (.getfield 13, 3) := by decide +kernel
theorem dX6_tick_189 : decode cX6_tick 189 = .ok (.iconst 1, 1) := by decide +kernel
theorem dX6_tick_190 : decode cX6_tick 190 = .ok (.faload, 1) := by decide +kernel
theorem dX6_tick_191 : decode cX6_tick 191 = .ok (.fastore, 1) := by decide +kernel
theorem dX6_tick_192 : decode cX6_tick 192 = .ok (.aload_n 0, 1) := by decide +kernel
theorem dX6_tick_193 : decode cX6_tick 193 = .ok (.getfield 13, 3) := by decide +kernel
theorem dX6_tick_196 : decode cX6_tick 196 = .ok (.iconst 2, 1) := by decide +kernel
theorem dX6_tick_197 : decode cX6_tick 197 = .ok (.aload_n 0, 1) := by decide +kernel
theorem dX6_tick_198 : decode cX6_tick 198 = .ok (.getfield 13, 3) := by decide +kernel
theorem dX6_tick_201 : decode cX6_tick 201 = .ok (.iconst 2, 1) := by decide +kernel
theorem dX6_tick_202 : decode cX6_tick 202 = .ok (.faload, 1) := by decide +kernel
theorem dX6_tick_203 : decode cX6_tick 203 = .ok (.aload_n 0, 1) := by decide +kernel
theorem dX6_tick_204 : decode cX6_tick 204 = .ok (.getfield 13, 3) := by decide +kernel
theorem dX6_tick_207 : decode cX6_tick 207 = .ok (.iconst 0, 1) := by decide +kernel
theorem dX6_tick_208 : decode cX6_tick 208 = .ok (.faload, 1) := by decide +kernel
theorem dX6_tick_209 : decode cX6_tick 209 = .ok (.ldc 125, 2) := by decide +kernel
theorem dX6_tick_211 : decode cX6_tick 211 = .ok (.fmul, 1) := by decide +kernel
theorem dX6_tick_212 : decode cX6_tick 212 = .ok (.fadd, 1) := by decide +kernel
theorem dX6_tick_213 : decode cX6_tick 213 = .ok (.fastore, 1) := by decide +kernel
theorem dX6_tick_214 : decode cX6_tick 214 = .ok (.aload_n 0, 1) := by decide +kernel
theorem dX6_tick_215 : decode cX6_tick 215 = .ok (.getfield 7, 3) := by decide +kernel
theorem dX6_tick_218 : decode cX6_tick 218 = .ok (.iconst 1, 1) := by decide +kernel
theorem dX6_tick_219 : decode cX6_tick 219 = .ok (.dup2, 1) := by decide +kernel
theorem dX6_tick_220 : decode cX6_tick 220 = .ok (.iaload, 1) := by decide +kernel
theorem dX6_tick_221 : decode cX6_tick 221 = .ok (.iconst 1, 1) := by decide +kernel
theorem dX6_tick_222 : decode cX6_tick 222 = .ok (.iadd, 1) := by decide +kernel
theorem dX6_tick_223 : decode cX6_tick 223 = .ok (.iastore, 1) := by decide +kernel
theorem dX6_tick_224 : decode cX6_tick 224 = .ok (.aload_n 0, 1) := by decide +kernel
theorem dX6_tick_225 : decode cX6_tick 225 = .ok (.getfield 7, 3) := by decide +kernel
theorem dX6_tick_228 : decode cX6_tick 228 = .ok (.iconst 3, 1) := by decide +kernel
theorem dX6_tick_229 : decode cX6_tick 229 = .ok (.dup2, 1) := by decide +kernel
theorem dX6_tick_230 : decode cX6_tick 230 = .ok (.iaload, 1) := by decide +kernel
theorem dX6_tick_231 : decode cX6_tick 231 = .ok (.iconst 1, 1) := by decide +kernel
theorem dX6_tick_232 : decode cX6_tick 232 = .ok (.iadd, 1) := by decide +kernel
theorem dX6_tick_233 : decode cX6_tick 233 = .ok (.iastore, 1) := by decide +kernel
theorem dX6_tick_234 : decode cX6_tick 234 = .ok (.aload_n 0, 1) := by decide +kernel
theorem dX6_tick_235 : decode cX6_tick 235 = .ok (.getfield 7, 3) := by decide +kernel
theorem dX6_tick_238 : decode cX6_tick 238 = .ok (.iconst 3, 1) := by decide +kernel
theorem dX6_tick_239 : decode cX6_tick 239 = .ok (.iaload, 1) := by decide +kernel
theorem dX6_tick_240 : decode cX6_tick 240 = .ok (.aload_n 0, 1) := by decide +kernel
theorem dX6_tick_241 : decode cX6_tick 241 = .ok (.invokevirtual 87, 3) := by decide +kernel
theorem dX6_tick_244 : decode cX6_tick 244 = .ok (.if_icmp .ne 7, 3) := by decide +kernel
theorem dX6_tick_247 : decode cX6_tick 247 = .ok (.aload_n 0, 1) := by decide +kernel
theorem dX6_tick_248 : decode cX6_tick 248 = .ok (.invokevirtual 80, 3) := by decide +kernel
theorem dX6_tick_251 : decode cX6_tick 251 = .ok (.iload_n 3, 1) := by decide +kernel
theorem dX6_tick_252 : decode cX6_tick 252 = .ok (.ireturn, 1) := by decide +kernel
set_option maxRecDepth 20000 in
theorem ggX6_pass_X6_in : GoodIn wsX6_pass wsX6_in := goodIn_r _ [4] (by decide +kernel) (by decide +kernel)
set_option maxRecDepth 20000 in
theorem gX6_pass_X6_in : GoodIn wsX6_pass (va_wsS RX6 55 yX6_in wsX6_in) := goodIn_app (goodIn_of _ (by decide +kernel)) ggX6_pass_X6_in
set_option maxRecDepth 20000 in
theorem ggX6_pass_X6_begin : GoodIn wsX6_pass wsX6_begin := goodIn_r _ [8, 9, 10, 11, 12, 78, 79, 80, 81, 82, 83, 84, 85, 86, 87, 88, 89, 90] (by decide +kernel) (by decide +kernel)
set_option maxRecDepth 20000 in
theorem gX6_pass_X6_begin : GoodIn wsX6_pass (wsV RX6 59 RX6 yX6_begin wsX6_begin) := goodIn_app (goodIn_of _ (by decide +kernel)) ggX6_pass_X6_begin
set_option maxRecDepth 20000 in
theorem ggX6_pass_X6_tick : GoodIn wsX6_pass wsX6_tick := goodIn_r _ [16, 10, 12, 17, 18, 19, 20, 21, 22, 3, 23, 24, 25, 26, 27, 28, 29, 30, 31, 32, 33, 34, 35, 36, 37, 38, 39, 40, 41, 42, 43, 44, 45, 46, 47, 48, 49, 50, 51, 52, 53, 54, 55, 56, 57, 58, 59, 60, 61, 62, 63, 64, 65, 66, 67, 68, 69, 70, 78, 79, 80, 81, 82, 83, 84, 85, 86, 87, 88, 89, 90] (by decide +kernel) (by decide +kernel)
set_option maxRecDepth 20000 in
theorem gX6_pass_X6_tick : GoodIn wsX6_pass (wsV RX6 126 RX6 yX6_tick wsX6_tick) := goodIn_app (goodIn_of _ (by decide +kernel)) ggX6_pass_X6_tick
set_option maxRecDepth 20000 in
theorem ggX6_pass_X6_done : GoodIn wsX6_pass wsX6_done := goodIn_r _ [74, 75, 76, 77, 9, 11, 78, 79, 80, 81, 82, 83, 84, 85, 86, 87, 88, 89, 90] (by decide +kernel) (by decide +kernel)
set_option maxRecDepth 20000 in
theorem gX6_pass_X6_done : GoodIn wsX6_pass (wsV RX6 62 RX6 yX6_done wsX6_done) := goodIn_app (goodIn_of _ (by decide +kernel)) ggX6_pass_X6_done
theorem dX6_pass_0 : decode cX6_pass 0 = .ok (.iload_n 1, 1) := by decide +kernel
theorem dX6_pass_1 : decode cX6_pass 1 = .ok (.iconst 1, 1) := by decide +kernel
theorem dX6_pass_2 : decode cX6_pass 2 = .ok (.sipush 500, 3) := by decide +kernel
theorem dX6_pass_5 : decode cX6_pass 5 = .ok (.invokestatic 55, 3) := by decide +kernel
theorem dX6_pass_8 : decode cX6_pass 8 = .ok (.ifCond .ne 6, 3) := by decide +kernel
theorem dX6_pass_11 : decode cX6_pass 11 = .ok (.bipush (-2), 2) := by decide +kernel
theorem dX6_pass_13 : decode cX6_pass 13 = .ok (.ireturn, 1) := by decide +kernel
theorem dX6_pass_14 : decode cX6_pass 14 = .ok (.aload_n 0, 1) := by decide +kernel
theorem dX6_pass_15 : decode cX6_pass 15 = .ok (.invokevirtual 59, 3) := by decide +kernel
theorem dX6_pass_18 : decode cX6_pass 18 = .ok (.iconst 0, 1) := by decide +kernel
theorem dX6_pass_19 : decode cX6_pass 19 = .ok (.istore_n 2, 1) := by decide +kernel
theorem dX6_pass_20 : decode cX6_pass 20 = .ok (.iconst 0, 1) := by decide +kernel
theorem dX6_pass_21 : decode cX6_pass 21 = .ok (.istore_n 3, 1) := by decide +kernel
theorem dX6_pass_22 : decode cX6_pass 22 = .ok (.iload_n 3, 1) := by decide +kernel
theorem dX6_pass_23 : decode cX6_pass 23 = .ok (.iload_n 1, 1) := by decide +kernel
theorem dX6_pass_24 : decode cX6_pass 24 = .ok (.if_icmp .ge 16, 3) := by decide +kernel
theorem dX6_pass_27 : decode cX6_pass 27 = .ok (.iload_n 2, 1) := by decide +kernel
theorem dX6_pass_28 : decode cX6_pass 28 = .ok (.aload_n 0, 1) := by decide +kernel
theorem dX6_pass_29 : decode cX6_pass 29 = .ok (.invokevirtual 126, 3) := by decide +kernel
theorem dX6_pass_32 : decode cX6_pass 32 = .ok (.iadd, 1) := by decide +kernel
theorem dX6_pass_33 : decode cX6_pass 33 = .ok (.istore_n 2, 1) := by decide +kernel
theorem dX6_pass_34 : decode cX6_pass 34 = .ok (.iinc 3 1, 3) := by decide +kernel
theorem dX6_pass_37 : decode cX6_pass 37 = .ok (.goto (-15), 3) := by decide +kernel
theorem dX6_pass_40 : decode cX6_pass 40 = .ok (.aload_n 0, 1) := by decide +kernel
theorem dX6_pass_41 : decode cX6_pass 41 = .ok (.iload_n 2, 1) := by decide +kernel
theorem dX6_pass_42 : decode cX6_pass 42 = .ok (.invokevirtual 62, 3) := by decide +kernel
theorem dX6_pass_45 : decode cX6_pass 45 = .ok (.ireturn, 1) := by decide +kernel
set_option maxRecDepth 20000 in
theorem ggX6_passFrames_X6_in : GoodIn wsX6_passFrames wsX6_in := goodIn_r _ [5] (by decide +kernel) (by decide +kernel)
set_option maxRecDepth 20000 in
theorem gX6_passFrames_X6_in : GoodIn wsX6_passFrames (va_wsS RX6 55 yX6_in wsX6_in) := goodIn_app (goodIn_of _ (by decide +kernel)) ggX6_passFrames_X6_in
set_option maxRecDepth 20000 in
theorem ggX6_passFrames_X6_begin : GoodIn wsX6_passFrames wsX6_begin := goodIn_r _ [9, 10, 1, 11, 12, 78, 79, 80, 81, 82, 83, 84, 85, 86, 87, 88, 89, 90] (by decide +kernel) (by decide +kernel)
set_option maxRecDepth 20000 in
theorem gX6_passFrames_X6_begin : GoodIn wsX6_passFrames (wsV RX6 59 RX6 yX6_begin wsX6_begin) := goodIn_app (goodIn_of _ (by decide +kernel)) ggX6_passFrames_X6_begin
set_option maxRecDepth 20000 in
theorem ggX6_passFrames_X6_tick : GoodIn wsX6_passFrames wsX6_tick := goodIn_r _ [16, 1, 12, 17, 18, 19, 20, 21, 22, 4, 23, 24, 25, 26, 27, 28, 29, 30, 31, 32, 33, 34, 35, 36, 37, 38, 39, 40, 41, 42, 43, 44, 45, 46, 47, 48, 49, 50, 51, 52, 53, 54, 55, 56, 57, 58, 59, 60, 61, 62, 63, 64, 65, 66, 67, 68, 69, 70, 78, 79, 80, 81, 82, 83, 84, 85, 86, 87, 88, 89, 90] (by decide +kernel) (by decide +kernel)
set_option maxRecDepth 20000 in
theorem gX6_passFrames_X6_tick : GoodIn wsX6_passFrames (wsV RX6 126 RX6 yX6_tick wsX6_tick) := goodIn_app (goodIn_of _ (by decide +kernel)) ggX6_passFrames_X6_tick
set_option maxRecDepth 20000 in
theorem ggX6_passFrames_X6_done : GoodIn wsX6_passFrames wsX6_done := goodIn_r _ [74, 75, 76, 77, 10, 11, 78, 79, 80, 81, 82, 83, 84, 85, 86, 87, 88, 89, 90] (by decide +kernel) (by decide +kernel)
set_option maxRecDepth 20000 in
theorem gX6_passFrames_X6_done : GoodIn wsX6_passFrames (wsV RX6 62 RX6 yX6_done wsX6_done) := goodIn_app (goodIn_of _ (by decide +kernel)) ggX6_passFrames_X6_done
theorem dX6_passFrames_0 : decode cX6_passFrames 0 = .ok (.iload_n 1, 1) := by decide +kernel
theorem dX6_passFrames_1 : decode cX6_passFrames 1 = .ok (.iconst 1, 1) := by decide +kernel
theorem dX6_passFrames_2 : decode cX6_passFrames 2 = .ok (.bipush 20, 2) := by decide +kernel
theorem dX6_passFrames_4 : decode cX6_passFrames 4 = .ok (.invokestatic 55, 3) := by decide +kernel
theorem dX6_passFrames_7 : decode cX6_passFrames 7 = .ok (.ifCond .ne 6, 3) := by decide +kernel
theorem dX6_passFrames_10 : decode cX6_passFrames 10 = .ok (.bipush (-2), 2) := by decide +kernel
theorem dX6_passFrames_12 : decode cX6_passFrames 12 = .ok (.ireturn, 1) := by decide +kernel
theorem dX6_passFrames_13 : decode cX6_passFrames 13 = .ok (.aload_n 0, 1) := by decide +kernel
theorem dX6_passFrames_14 : decode cX6_passFrames 14 = .ok (.invokevirtual 59, 3) := by decide +kernel
theorem dX6_passFrames_17 : decode cX6_passFrames 17 = .ok (.aload_n 0, 1) := by decide +kernel
theorem dX6_passFrames_18 : decode cX6_passFrames 18 = .ok (.getfield 7, 3) := by decide +kernel
theorem dX6_passFrames_21 : decode cX6_passFrames 21 = .ok (.iconst 2, 1) := by decide +kernel
theorem dX6_passFrames_22 : decode cX6_passFrames 22 = .ok (.iaload, 1) := by decide +kernel
theorem dX6_passFrames_23 : decode cX6_passFrames 23 = .ok (.iload_n 1, 1) := by decide +kernel
theorem dX6_passFrames_24 : decode cX6_passFrames 24 = .ok (.iadd, 1) := by decide +kernel
theorem dX6_passFrames_25 : decode cX6_passFrames 25 = .ok (.istore_n 2, 1) := by decide +kernel
theorem dX6_passFrames_26 : decode cX6_passFrames 26 = .ok (.aload_n 0, 1) := by decide +kernel
theorem dX6_passFrames_27 : decode cX6_passFrames 27 = .ok (.getfield 7, 3) := by decide +kernel
theorem dX6_passFrames_30 : decode cX6_passFrames 30 = .ok (.iconst 2, 1) := by decide +kernel
theorem dX6_passFrames_31 : decode cX6_passFrames 31 = .ok (.iaload, 1) := by decide +kernel
theorem dX6_passFrames_32 : decode cX6_passFrames 32 = .ok (.iload_n 2, 1) := by decide +kernel
theorem dX6_passFrames_33 : decode cX6_passFrames 33 = .ok (.if_icmp .ge 11, 3) := by decide +kernel
theorem dX6_passFrames_36 : decode cX6_passFrames 36 = .ok (.aload_n 0, 1) := by decide +kernel
theorem dX6_passFrames_37 : decode cX6_passFrames 37 = .ok (.invokevirtual 126, 3) := by decide +kernel
theorem dX6_passFrames_40 : decode cX6_passFrames 40 = .ok (.istore_n 3, 1) := by decide +kernel
theorem dX6_passFrames_41 : decode cX6_passFrames 41 = .ok (.goto (-15), 3) := by decide +kernel
theorem dX6_passFrames_44 : decode cX6_passFrames 44 = .ok (.aload_n 0, 1) := by decide +kernel
theorem dX6_passFrames_45 : decode cX6_passFrames 45 = .ok (.aload_n 0, 1) := by decide +kernel
theorem dX6_passFrames_46 : decode cX6_passFrames 46 = .ok (.getfield 7, 3) := by decide +kernel
theorem dX6_passFrames_49 : decode cX6_passFrames 49 = .ok (.iconst 1, 1) := by decide +kernel
theorem dX6_passFrames_50 : decode cX6_passFrames 50 = .ok (.iaload, 1) := by decide +kernel
theorem dX6_passFrames_51 : decode cX6_passFrames 51 = .ok (.invokevirtual 62, 3) := by decide +kernel
theorem dX6_passFrames_54 : decode cX6_passFrames 54 = .ok (.ireturn, 1) := by decide +kernel
theorem dX6_type_0 : decode cX6_type 0 = .ok (.aload_n 0, 1) := by decide +kernel
theorem dX6_type_1 : decode cX6_type 1 = .ok (.getfield 129, 3) := by decide +kernel
theorem dX6_type_4 : decode cX6_type 4 = .ok (.bipush 30, 2) := by decide +kernel
theorem dX6_type_6 : decode cX6_type 6 = .ok (.if_icmp .ne 6, 3) := by decide +kernel
theorem dX6_type_9 : decode cX6_type 9 = .ok (.bipush (-3), 2) := by decide +kernel
theorem dX6_type_11 : decode cX6_type 11 = .ok (.ireturn, 1) := by decide +kernel
theorem dX6_type_12 : decode cX6_type 12 = .ok (.aload_n 0, 1) := by decide +kernel
theorem dX6_type_13 : decode cX6_type 13 = .ok (.getfield 39, 3) := by decide +kernel
theorem dX6_type_16 : decode cX6_type 16 = .ok (.aload_n 0, 1) := by decide +kernel
theorem dX6_type_17 : decode cX6_type 17 = .ok (.getfield 129, 3) := by decide +kernel
theorem dX6_type_20 : decode cX6_type 20 = .ok (.iload_n 1, 1) := by decide +kernel
theorem dX6_type_21 : decode cX6_type 21 = .ok (.castore, 1) := by decide +kernel
theorem dX6_type_22 : decode cX6_type 22 = .ok (.aload_n 0, 1) := by decide +kernel
theorem dX6_type_23 : decode cX6_type 23 = .ok (.dup, 1) := by decide +kernel
theorem dX6_type_24 : decode cX6_type 24 = .ok (.getfield 129, 3) := by decide +kernel
theorem dX6_type_27 : decode cX6_type 27 = .ok (.iconst 1, 1) := by decide +kernel
theorem dX6_type_28 : decode cX6_type 28 = .ok (.iadd, 1) := by decide +kernel
theorem dX6_type_29 : decode cX6_type 29 = .ok (.putfield 129, 3) := by decide +kernel
theorem dX6_type_32 : decode cX6_type 32 = .ok (.aload_n 0, 1) := by decide +kernel
theorem dX6_type_33 : decode cX6_type 33 = .ok (.getfield 129, 3) := by decide +kernel
theorem dX6_type_36 : decode cX6_type 36 = .ok (.ireturn, 1) := by decide +kernel
theorem dX6_clearText_0 : decode cX6_clearText 0 = .ok (.aload_n 0, 1) := by decide +kernel
theorem dX6_clearText_1 : decode cX6_clearText 1 = .ok (.getfield 129, 3) := by decide +kernel
theorem dX6_clearText_4 : decode cX6_clearText 4 = .ok (.istore_n 1, 1) := by decide +kernel
theorem dX6_clearText_5 : decode cX6_clearText 5 = .ok (.aload_n 0, 1) := by decide +kernel
theorem dX6_clearText_6 : decode cX6_clearText 6 = .ok (.iconst 0, 1) := by decide +kernel
theorem dX6_clearText_7 : decode cX6_clearText 7 = .ok (.putfield 129, 3) := by decide +kernel
theorem dX6_clearText_10 : decode cX6_clearText 10 = .ok (.iload_n 1, 1) := by decide +kernel
theorem dX6_clearText_11 : decode cX6_clearText 11 = .ok (.ireturn, 1) := by decide +kernel
theorem dX6_patternOf_0 : decode cX6_patternOf 0 = .ok (.iload_n 0, 1) := by decide +kernel
theorem dX6_patternOf_1 : decode cX6_patternOf 1 = .ok (.lookupswitch 175 #[(32, 164), (45, 161), (48, 131), (49, 134), (50, 137), (51, 140), (52, 143), (53, 146), (54, 149), (55, 152), (56, 155), (57, 158), (69, 166), (111, 172), (114, 169)], 131) := by decide +kernel
theorem dX6_patternOf_132 : decode cX6_patternOf 132 = .ok (.bipush 63, 2) := by decide +kernel
theorem dX6_patternOf_134 : decode cX6_patternOf 134 = .ok (.ireturn, 1) := by decide +kernel
theorem dX6_patternOf_135 : decode cX6_patternOf 135 = .ok (.bipush 6, 2) := by decide +kernel
theorem dX6_patternOf_137 : decode cX6_patternOf 137 = .ok (.ireturn, 1) := by decide +kernel
theorem dX6_patternOf_138 : decode cX6_patternOf 138 = .ok (.bipush 91, 2) := by decide +kernel
theorem dX6_patternOf_140 : decode cX6_patternOf 140 = .ok (.ireturn, 1) := by decide +kernel
theorem dX6_patternOf_141 : decode cX6_patternOf 141 = .ok (.bipush 79, 2) := by decide +kernel
theorem dX6_patternOf_143 : decode cX6_patternOf 143 = .ok (.ireturn, 1) := by decide +kernel
theorem dX6_patternOf_144 : decode cX6_patternOf 144 = .ok (.bipush 102, 2) := by decide +kernel
theorem dX6_patternOf_146 : decode cX6_patternOf 146 = .ok (.ireturn, 1) := by decide +kernel
theorem dX6_patternOf_147 : decode cX6_patternOf 147 = .ok (.bipush 109, 2) := by decide +kernel
theorem dX6_patternOf_149 : decode cX6_patternOf 149 = .ok (.ireturn, 1) := by decide +kernel
theorem dX6_patternOf_150 : decode cX6_patternOf 150 = .ok (.bipush 125, 2) := by decide +kernel
theorem dX6_patternOf_152 : decode cX6_patternOf 152 = .ok (.ireturn, 1) := by decide +kernel
theorem dX6_patternOf_153 : decode cX6_patternOf 153 = .ok (.bipush 7, 2) := by decide +kernel
theorem dX6_patternOf_155 : decode cX6_patternOf 155 = .ok (.ireturn, 1) := by decide +kernel
theorem dX6_patternOf_156 : decode cX6_patternOf 156 = .ok (.bipush 127, 2) := by decide +kernel
theorem dX6_patternOf_158 : decode cX6_patternOf 158 = .ok (.ireturn, 1) := by decide +kernel
theorem dX6_patternOf_159 : decode cX6_patternOf 159 = .ok (.bipush 111, 2) := by decide +kernel
theorem dX6_patternOf_161 : decode cX6_patternOf 161 = .ok (.ireturn, 1) := by decide +kernel
theorem dX6_patternOf_162 : decode cX6_patternOf 162 = .ok (.bipush 64, 2) := by decide +kernel
theorem dX6_patternOf_164 : decode cX6_patternOf 164 = .ok (.ireturn, 1) := by decide +kernel
theorem dX6_patternOf_165 : decode cX6_patternOf 165 = .ok (.iconst 0, 1) := by decide +kernel
theorem dX6_patternOf_166 : decode cX6_patternOf 166 = .ok (.ireturn, 1) := by decide +kernel
theorem dX6_patternOf_167 : decode cX6_patternOf 167 = .ok (.bipush 121, 2) := by decide +kernel
theorem dX6_patternOf_169 : decode cX6_patternOf 169 = .ok (.ireturn, 1) := by decide +kernel
theorem dX6_patternOf_170 : decode cX6_patternOf 170 = .ok (.bipush 80, 2) := by decide +kernel
theorem dX6_patternOf_172 : decode cX6_patternOf 172 = .ok (.ireturn, 1) := by decide +kernel
theorem dX6_patternOf_173 : decode cX6_patternOf 173 = .ok (.bipush 92, 2) := by decide +kernel
theorem dX6_patternOf_175 : decode cX6_patternOf 175 = .ok (.ireturn, 1) := by decide +kernel
theorem dX6_patternOf_176 : decode cX6_patternOf 176 = .ok (.bipush (-4), 2) := by decide +kernel
theorem dX6_patternOf_178 : decode cX6_patternOf 178 = .ok (.ireturn, 1) := by decide +kernel
set_option maxRecDepth 20000 in
theorem ggX6_charOf_X6_patternOf : GoodIn wsX6_charOf wsX6_patternOf := goodIn_r _ [4] (by decide +kernel) (by decide +kernel)
set_option maxRecDepth 20000 in
theorem gX6_charOf_X6_patternOf : GoodIn wsX6_charOf (va_wsS RX6 132 yX6_patternOf wsX6_patternOf) := goodIn_app (goodIn_of _ (by decide +kernel)) ggX6_charOf_X6_patternOf
theorem dX6_charOf_0 : decode cX6_charOf 0 = .ok (.bipush 32, 2) := by decide +kernel
theorem dX6_charOf_2 : decode cX6_charOf 2 = .ok (.istore_n 2, 1) := by decide +kernel
theorem dX6_charOf_3 : decode cX6_charOf 3 = .ok (.iload_n 2, 1) := by decide +kernel
theorem dX6_charOf_4 : decode cX6_charOf 4 = .ok (.bipush 127, 2) := by decide +kernel
theorem dX6_charOf_6 : decode cX6_charOf 6 = .ok (.if_icmp .ge 21, 3) := by decide +kernel
theorem dX6_charOf_9 : decode cX6_charOf 9 = .ok (.iload_n 2, 1) := by decide +kernel
theorem dX6_charOf_10 : decode cX6_charOf 10 = .ok (.invokestatic 132, 3) := by decide +kernel
theorem dX6_charOf_13 : decode cX6_charOf 13 = .ok (.iload_n 1, 1) := by decide +kernel
theorem dX6_charOf_14 : decode cX6_charOf 14 = .ok (.if_icmp .ne 5, 3) := by decide +kernel
theorem dX6_charOf_17 : decode cX6_charOf 17 = .ok (.iload_n 2, 1) := by decide +kernel
theorem dX6_charOf_18 : decode cX6_charOf 18 = .ok (.ireturn, 1) := by decide +kernel
theorem dX6_charOf_19 : decode cX6_charOf 19 = .ok (.iload_n 2, 1) := by decide +kernel
theorem dX6_charOf_20 : decode cX6_charOf 20 = .ok (.iconst 1, 1) := by decide +kernel
theorem dX6_charOf_21 : decode cX6_charOf 21 = .ok (.iadd, 1) := by decide +kernel
theorem dX6_charOf_22 : decode cX6_charOf 22 = .ok (.i2c, 1) := by decide +kernel
theorem dX6_charOf_23 : decode cX6_charOf 23 = .ok (.istore_n 2, 1) := by decide +kernel
theorem dX6_charOf_24 : decode cX6_charOf 24 = .ok (.goto (-21), 3) := by decide +kernel
theorem dX6_charOf_27 : decode cX6_charOf 27 = .ok (.bipush (-4), 2) := by decide +kernel
theorem dX6_charOf_29 : decode cX6_charOf 29 = .ok (.ireturn, 1) := by decide +kernel
set_option maxRecDepth 20000 in
theorem ggX6_show_X6_patternOf : GoodIn wsX6_show wsX6_patternOf := goodIn_r _ [8] (by decide +kernel) (by decide +kernel)
set_option maxRecDepth 20000 in
theorem gX6_show_X6_patternOf : GoodIn wsX6_show (va_wsS RX6 132 yX6_patternOf wsX6_patternOf) := goodIn_app (goodIn_of _ (by decide +kernel)) ggX6_show_X6_patternOf
set_option maxRecDepth 20000 in
theorem ggX6_show_X6_begin : GoodIn wsX6_show wsX6_begin := goodIn_r _ [12, 13, 3, 14, 15, 27, 28, 29, 30, 31, 32, 33, 34, 35, 36, 37, 38, 39] (by decide +kernel) (by decide +kernel)
set_option maxRecDepth 20000 in
theorem gX6_show_X6_begin : GoodIn wsX6_show (wsV RX6 59 RX6 yX6_begin wsX6_begin) := goodIn_app (goodIn_of _ (by decide +kernel)) ggX6_show_X6_begin
set_option maxRecDepth 20000 in
theorem ggX6_show_X6_put : GoodIn wsX6_show wsX6_put := goodIn_r _ [19, 3, 27, 28, 29, 30, 31, 32, 33, 34, 35, 36, 37, 38, 39] (by decide +kernel) (by decide +kernel)
set_option maxRecDepth 20000 in
theorem gX6_show_X6_put : GoodIn wsX6_show (wsV RX6 66 RX6 yX6_put wsX6_put) := goodIn_app (goodIn_of _ (by decide +kernel)) ggX6_show_X6_put
set_option maxRecDepth 20000 in
theorem ggX6_show_X6_done : GoodIn wsX6_show wsX6_done := goodIn_r _ [23, 24, 25, 26, 13, 14, 27, 28, 29, 30, 31, 32, 33, 34, 35, 36, 37, 38, 39] (by decide +kernel) (by decide +kernel)
set_option maxRecDepth 20000 in
theorem gX6_show_X6_done : GoodIn wsX6_show (wsV RX6 62 RX6 yX6_done wsX6_done) := goodIn_app (goodIn_of _ (by decide +kernel)) ggX6_show_X6_done
theorem dX6_show_0 : decode cX6_show 0 = .ok (.iconst 0, 1) := by decide +kernel
theorem dX6_show_1 : decode cX6_show 1 = .ok (.istore_n 1, 1) := by decide +kernel
theorem dX6_show_2 : decode cX6_show 2 = .ok (.iconst 0, 1) := by decide +kernel
theorem dX6_show_3 : decode cX6_show 3 = .ok (.istore_n 2, 1) := by decide +kernel
theorem dX6_show_4 : decode cX6_show 4 = .ok (.iconst 0, 1) := by decide +kernel
theorem dX6_show_5 : decode cX6_show 5 = .ok (.istore_n 3, 1) := by decide +kernel
theorem dX6_show_6 : decode cX6_show 6 = .ok (.iload_n 3, 1) := by decide +kernel
theorem dX6_show_7 : decode cX6_show 7 = .ok (.aload_n 0, 1) := by decide +kernel
theorem dX6_show_8 : decode cX6_show 8 = .ok (.getfield 129, 3) := by decide +kernel
theorem dX6_show_11 : decode cX6_show 11 = .ok (.if_icmp .ge 142, 3) := by decide +kernel
theorem dX6_show_14 : decode cX6_show 14 = .ok (.aload_n 0, 1) := by decide +kernel
theorem dX6_show_15 : decode cX6_show 15 = .ok (.getfield 39, 3) := by decide +kernel
theorem dX6_show_18 : decode cX6_show 18 = .ok (.iload_n 3, 1) := by decide +kernel
theorem dX6_show_19 : decode cX6_show 19 = .ok (.caload, 1) := by decide +kernel
theorem dX6_show_20 : decode cX6_show 20 = .ok (.bipush 46, 2) := by decide +kernel
theorem dX6_show_22 : decode cX6_show 22 = .ok (.if_icmp .ne 7, 3) := by decide +kernel
theorem dX6_show_25 : decode cX6_show 25 = .ok (.iconst 1, 1) := by decide +kernel
theorem dX6_show_26 : decode cX6_show 26 = .ok (.goto 4, 3) := by decide +kernel
theorem dX6_show_29 : decode cX6_show 29 = .ok (.iconst 0, 1) := by decide +kernel
theorem dX6_show_30 : decode cX6_show 30 = .ok (.istore 4, 2) := by decide +kernel
theorem dX6_show_32 : decode cX6_show 32 = .ok (.iload 4, 2) := by decide +kernel
theorem dX6_show_34 : decode cX6_show 34 = .ok (.ifCond .eq 7, 3) := by decide +kernel
theorem dX6_show_37 : decode cX6_show 37 = .ok (.iload_n 2, 1) := by decide +kernel
theorem dX6_show_38 : decode cX6_show 38 = .ok (.ifCond .ne 7, 3) := by decide +kernel
theorem dX6_show_41 : decode cX6_show 41 = .ok (.iconst 1, 1) := by decide +kernel
theorem dX6_show_42 : decode cX6_show 42 = .ok (.goto 4, 3) := by decide +kernel
theorem dX6_show_45 : decode cX6_show 45 = .ok (.iconst 0, 1) := by decide +kernel
theorem dX6_show_46 : decode cX6_show 46 = .ok (.istore 5, 2) := by decide +kernel
theorem dX6_show_48 : decode cX6_show 48 = .ok (.iload 4, 2) := by decide +kernel
theorem dX6_show_50 : decode cX6_show 50 = .ok (.ifCond .ne 15, 3) := by decide +kernel
theorem dX6_show_53 : decode cX6_show 53 = .ok (.aload_n 0, 1) := by decide +kernel
theorem dX6_show_54 : decode cX6_show 54 = .ok (.getfield 39, 3) := by decide +kernel
theorem dX6_show_57 : decode cX6_show 57 = .ok (.iload_n 3, 1) := by decide +kernel
end
section
theorem dX6_show_58 : decode cX6_show 58 = .ok (.caload, 1) := by decide +kernel
theorem dX6_show_59 : decode cX6_show 59 = .ok (.invokestatic 132, 3) := by decide +kernel
theorem dX6_show_62 : decode cX6_show 62 = .ok (.ifCond .lt 18, 3) := by decide +kernel
theorem dX6_show_65 : decode cX6_show 65 = .ok (.iload 5, 2) := by decide +kernel
theorem dX6_show_67 : decode cX6_show 67 = .ok (.ifCond .eq 18, 3) := by decide +kernel
theorem dX6_show_70 : decode cX6_show 70 = .ok (.iload_n 1, 1) := by decide +kernel
theorem dX6_show_71 : decode cX6_show 71 = .ok (.aload_n 0, 1) := by decide +kernel
theorem dX6_show_72 : decode cX6_show 72 = .ok (.getfield 7, 3) := by decide +kernel
theorem dX6_show_75 : decode cX6_show 75 = .ok (.iconst 0, 1) := by decide +kernel
theorem dX6_show_76 : decode cX6_show 76 = .ok (.iaload, 1) := by decide +kernel
theorem dX6_show_77 : decode cX6_show 77 = .ok (.if_icmp .ne 8, 3) := by decide +kernel
theorem dX6_show_80 : decode cX6_show 80 = .ok (.bipush (-100), 2) := by decide +kernel
theorem dX6_show_82 : decode cX6_show 82 = .ok (.iload_n 3, 1) := by decide +kernel
theorem dX6_show_83 : decode cX6_show 83 = .ok (.isub, 1) := by decide +kernel
theorem dX6_show_84 : decode cX6_show 84 = .ok (.ireturn, 1) := by decide +kernel
theorem dX6_show_85 : decode cX6_show 85 = .ok (.iload 5, 2) := by decide +kernel
theorem dX6_show_87 : decode cX6_show 87 = .ok (.ifCond .eq 35, 3) := by decide +kernel
theorem dX6_show_90 : decode cX6_show 90 = .ok (.aload_n 0, 1) := by decide +kernel
theorem dX6_show_91 : decode cX6_show 91 = .ok (.getfield 43, 3) := by decide +kernel
theorem dX6_show_94 : decode cX6_show 94 = .ok (.iload_n 1, 1) := by decide +kernel
theorem dX6_show_95 : decode cX6_show 95 = .ok (.iload 4, 2) := by decide +kernel
theorem dX6_show_97 : decode cX6_show 97 = .ok (.ifCond .eq 9, 3) := by decide +kernel
theorem dX6_show_100 : decode cX6_show 100 = .ok (.sipush 128, 3) := by decide +kernel
theorem dX6_show_103 : decode cX6_show 103 = .ok (.goto 12, 3) := by decide +kernel
theorem dX6_show_106 : decode cX6_show 106 = .ok (.aload_n 0, 1) := by decide +kernel
theorem dX6_show_107 : decode cX6_show 107 = .ok (.getfield 39, 3) := by decide +kernel
theorem dX6_show_110 : decode cX6_show 110 = .ok (.iload_n 3, 1) := by decide +kernel
theorem dX6_show_111 : decode cX6_show 111 = .ok (.caload, 1) := by decide +kernel
theorem dX6_show_112 : decode cX6_show 112 = .ok (.invokestatic 132, 3) := by decide +kernel
theorem dX6_show_115 : decode cX6_show 115 = .ok (.iastore, 1) := by decide +kernel
theorem dX6_show_116 : decode cX6_show 116 = .ok (.iinc 1 1, 3) := by decide +kernel
theorem dX6_show_119 : decode cX6_show 119 = .ok (.goto 17, 3) := by decide +kernel
theorem dX6_show_122 : decode cX6_show 122 = .ok (.aload_n 0, 1) := by decide +kernel
theorem dX6_show_123 : decode cX6_show 123 = .ok (.getfield 43, 3) := by decide +kernel
theorem dX6_show_126 : decode cX6_show 126 = .ok (.iload_n 1, 1) := by decide +kernel
theorem dX6_show_127 : decode cX6_show 127 = .ok (.iconst 1, 1) := by decide +kernel
theorem dX6_show_128 : decode cX6_show 128 = .ok (.isub, 1) := by decide +kernel
theorem dX6_show_129 : decode cX6_show 129 = .ok (.dup2, 1) := by decide +kernel
theorem dX6_show_130 : decode cX6_show 130 = .ok (.iaload, 1) := by decide +kernel
theorem dX6_show_131 : decode cX6_show 131 = .ok (.sipush 128, 3) := by decide +kernel
theorem dX6_show_134 : decode cX6_show 134 = .ok (.iadd, 1) := by decide +kernel
theorem dX6_show_135 : decode cX6_show 135 = .ok (.iastore, 1) := by decide +kernel
theorem dX6_show_136 : decode cX6_show 136 = .ok (.iload 4, 2) := by decide +kernel
theorem dX6_show_138 : decode cX6_show 138 = .ok (.ifCond .ne 7, 3) := by decide +kernel
theorem dX6_show_141 : decode cX6_show 141 = .ok (.iconst 1, 1) := by decide +kernel
theorem dX6_show_142 : decode cX6_show 142 = .ok (.goto 4, 3) := by decide +kernel
theorem dX6_show_145 : decode cX6_show 145 = .ok (.iconst 0, 1) := by decide +kernel
theorem dX6_show_146 : decode cX6_show 146 = .ok (.istore_n 2, 1) := by decide +kernel
theorem dX6_show_147 : decode cX6_show 147 = .ok (.iinc 3 1, 3) := by decide +kernel
theorem dX6_show_150 : decode cX6_show 150 = .ok (.goto (-144), 3) := by decide +kernel
theorem dX6_show_153 : decode cX6_show 153 = .ok (.aload_n 0, 1) := by decide +kernel
theorem dX6_show_154 : decode cX6_show 154 = .ok (.invokevirtual 59, 3) := by decide +kernel
theorem dX6_show_157 : decode cX6_show 157 = .ok (.iconst 0, 1) := by decide +kernel
theorem dX6_show_158 : decode cX6_show 158 = .ok (.istore_n 3, 1) := by decide +kernel
theorem dX6_show_159 : decode cX6_show 159 = .ok (.iload_n 3, 1) := by decide +kernel
theorem dX6_show_160 : decode cX6_show 160 = .ok (.aload_n 0, 1) := by decide +kernel
theorem dX6_show_161 : decode cX6_show 161 = .ok (.getfield 7, 3) := by decide +kernel
theorem dX6_show_164 : decode cX6_show 164 = .ok (.iconst 0, 1) := by decide +kernel
theorem dX6_show_165 : decode cX6_show 165 = .ok (.iaload, 1) := by decide +kernel
theorem dX6_show_166 : decode cX6_show 166 = .ok (.if_icmp .ge 30, 3) := by decide +kernel
theorem dX6_show_169 : decode cX6_show 169 = .ok (.aload_n 0, 1) := by decide +kernel
theorem dX6_show_170 : decode cX6_show 170 = .ok (.iload_n 3, 1) := by decide +kernel
theorem dX6_show_171 : decode cX6_show 171 = .ok (.iconst 0, 1) := by decide +kernel
theorem dX6_show_172 : decode cX6_show 172 = .ok (.iload_n 3, 1) := by decide +kernel
theorem dX6_show_173 : decode cX6_show 173 = .ok (.iload_n 1, 1) := by decide +kernel
theorem dX6_show_174 : decode cX6_show 174 = .ok (.if_icmp .ge 12, 3) := by decide +kernel
theorem dX6_show_177 : decode cX6_show 177 = .ok (.aload_n 0, 1) := by decide +kernel
theorem dX6_show_178 : decode cX6_show 178 = .ok (.getfield 43, 3) := by decide +kernel
theorem dX6_show_181 : decode cX6_show 181 = .ok (.iload_n 3, 1) := by decide +kernel
theorem dX6_show_182 : decode cX6_show 182 = .ok (.iaload, 1) := by decide +kernel
theorem dX6_show_183 : decode cX6_show 183 = .ok (.goto 4, 3) := by decide +kernel
theorem dX6_show_186 : decode cX6_show 186 = .ok (.iconst 0, 1) := by decide +kernel
theorem dX6_show_187 : decode cX6_show 187 = .ok (.invokevirtual 66, 3) := by decide +kernel
theorem dX6_show_190 : decode cX6_show 190 = .ok (.iinc 3 1, 3) := by decide +kernel
theorem dX6_show_193 : decode cX6_show 193 = .ok (.goto (-34), 3) := by decide +kernel
theorem dX6_show_196 : decode cX6_show 196 = .ok (.aload_n 0, 1) := by decide +kernel
theorem dX6_show_197 : decode cX6_show 197 = .ok (.iload_n 1, 1) := by decide +kernel
theorem dX6_show_198 : decode cX6_show 198 = .ok (.invokevirtual 62, 3) := by decide +kernel
theorem dX6_show_201 : decode cX6_show 201 = .ok (.ireturn, 1) := by decide +kernel
theorem dX6_seenOf_0 : decode cX6_seenOf 0 = .ok (.iconst 0, 1) := by decide +kernel
theorem dX6_seenOf_1 : decode cX6_seenOf 1 = .ok (.istore_n 2, 1) := by decide +kernel
theorem dX6_seenOf_2 : decode cX6_seenOf 2 = .ok (.iconst 0, 1) := by decide +kernel
theorem dX6_seenOf_3 : decode cX6_seenOf 3 = .ok (.istore_n 3, 1) := by decide +kernel
theorem dX6_seenOf_4 : decode cX6_seenOf 4 = .ok (.iload_n 3, 1) := by decide +kernel
theorem dX6_seenOf_5 : decode cX6_seenOf 5 = .ok (.bipush 8, 2) := by decide +kernel
theorem dX6_seenOf_7 : decode cX6_seenOf 7 = .ok (.if_icmp .ge 43, 3) := by decide +kernel
theorem dX6_seenOf_10 : decode cX6_seenOf 10 = .ok (.iload_n 2, 1) := by decide +kernel
theorem dX6_seenOf_11 : decode cX6_seenOf 11 = .ok (.aload_n 0, 1) := by decide +kernel
theorem dX6_seenOf_12 : decode cX6_seenOf 12 = .ok (.getfield 7, 3) := by decide +kernel
theorem dX6_seenOf_15 : decode cX6_seenOf 15 = .ok (.bipush 64, 2) := by decide +kernel
theorem dX6_seenOf_17 : decode cX6_seenOf 17 = .ok (.bipush 8, 2) := by decide +kernel
theorem dX6_seenOf_19 : decode cX6_seenOf 19 = .ok (.iload_n 1, 1) := by decide +kernel
theorem dX6_seenOf_20 : decode cX6_seenOf 20 = .ok (.imul, 1) := by decide +kernel
theorem dX6_seenOf_21 : decode cX6_seenOf 21 = .ok (.iadd, 1) := by decide +kernel
theorem dX6_seenOf_22 : decode cX6_seenOf 22 = .ok (.iload_n 3, 1) := by decide +kernel
theorem dX6_seenOf_23 : decode cX6_seenOf 23 = .ok (.iadd, 1) := by decide +kernel
theorem dX6_seenOf_24 : decode cX6_seenOf 24 = .ok (.iaload, 1) := by decide +kernel
theorem dX6_seenOf_25 : decode cX6_seenOf 25 = .ok (.aload_n 0, 1) := by decide +kernel
theorem dX6_seenOf_26 : decode cX6_seenOf 26 = .ok (.getfield 7, 3) := by decide +kernel
theorem dX6_seenOf_29 : decode cX6_seenOf 29 = .ok (.bipush 7, 2) := by decide +kernel
theorem dX6_seenOf_31 : decode cX6_seenOf 31 = .ok (.iaload, 1) := by decide +kernel
theorem dX6_seenOf_32 : decode cX6_seenOf 32 = .ok (.if_icmp .lt 9, 3) := by decide +kernel
theorem dX6_seenOf_35 : decode cX6_seenOf 35 = .ok (.iconst 1, 1) := by decide +kernel
theorem dX6_seenOf_36 : decode cX6_seenOf 36 = .ok (.iload_n 3, 1) := by decide +kernel
theorem dX6_seenOf_37 : decode cX6_seenOf 37 = .ok (.ishl, 1) := by decide +kernel
theorem dX6_seenOf_38 : decode cX6_seenOf 38 = .ok (.goto 4, 3) := by decide +kernel
theorem dX6_seenOf_41 : decode cX6_seenOf 41 = .ok (.iconst 0, 1) := by decide +kernel
theorem dX6_seenOf_42 : decode cX6_seenOf 42 = .ok (.ior, 1) := by decide +kernel
theorem dX6_seenOf_43 : decode cX6_seenOf 43 = .ok (.istore_n 2, 1) := by decide +kernel
theorem dX6_seenOf_44 : decode cX6_seenOf 44 = .ok (.iinc 3 1, 3) := by decide +kernel
theorem dX6_seenOf_47 : decode cX6_seenOf 47 = .ok (.goto (-43), 3) := by decide +kernel
theorem dX6_seenOf_50 : decode cX6_seenOf 50 = .ok (.iload_n 2, 1) := by decide +kernel
theorem dX6_seenOf_51 : decode cX6_seenOf 51 = .ok (.ireturn, 1) := by decide +kernel
theorem dX6_glowOf_0 : decode cX6_glowOf 0 = .ok (.iconst 0, 1) := by decide +kernel
theorem dX6_glowOf_1 : decode cX6_glowOf 1 = .ok (.istore_n 2, 1) := by decide +kernel
theorem dX6_glowOf_2 : decode cX6_glowOf 2 = .ok (.iconst 0, 1) := by decide +kernel
theorem dX6_glowOf_3 : decode cX6_glowOf 3 = .ok (.istore_n 3, 1) := by decide +kernel
theorem dX6_glowOf_4 : decode cX6_glowOf 4 = .ok (.iload_n 3, 1) := by decide +kernel
theorem dX6_glowOf_5 : decode cX6_glowOf 5 = .ok (.bipush 8, 2) := by decide +kernel
theorem dX6_glowOf_7 : decode cX6_glowOf 7 = .ok (.if_icmp .ge 26, 3) := by decide +kernel
theorem dX6_glowOf_10 : decode cX6_glowOf 10 = .ok (.iload_n 2, 1) := by decide +kernel
theorem dX6_glowOf_11 : decode cX6_glowOf 11 = .ok (.aload_n 0, 1) := by decide +kernel
theorem dX6_glowOf_12 : decode cX6_glowOf 12 = .ok (.getfield 7, 3) := by decide +kernel
theorem dX6_glowOf_15 : decode cX6_glowOf 15 = .ok (.bipush 64, 2) := by decide +kernel
theorem dX6_glowOf_17 : decode cX6_glowOf 17 = .ok (.bipush 8, 2) := by decide +kernel
theorem dX6_glowOf_19 : decode cX6_glowOf 19 = .ok (.iload_n 1, 1) := by decide +kernel
theorem dX6_glowOf_20 : decode cX6_glowOf 20 = .ok (.imul, 1) := by decide +kernel
theorem dX6_glowOf_21 : decode cX6_glowOf 21 = .ok (.iadd, 1) := by decide +kernel
theorem dX6_glowOf_22 : decode cX6_glowOf 22 = .ok (.iload_n 3, 1) := by decide +kernel
theorem dX6_glowOf_23 : decode cX6_glowOf 23 = .ok (.iadd, 1) := by decide +kernel
theorem dX6_glowOf_24 : decode cX6_glowOf 24 = .ok (.iaload, 1) := by decide +kernel
theorem dX6_glowOf_25 : decode cX6_glowOf 25 = .ok (.iadd, 1) := by decide +kernel
theorem dX6_glowOf_26 : decode cX6_glowOf 26 = .ok (.istore_n 2, 1) := by decide +kernel
theorem dX6_glowOf_27 : decode cX6_glowOf 27 = .ok (.iinc 3 1, 3) := by decide +kernel
theorem dX6_glowOf_30 : decode cX6_glowOf 30 = .ok (.goto (-26), 3) := by decide +kernel
theorem dX6_glowOf_33 : decode cX6_glowOf 33 = .ok (.iload_n 2, 1) := by decide +kernel
theorem dX6_glowOf_34 : decode cX6_glowOf 34 = .ok (.ireturn, 1) := by decide +kernel
set_option maxRecDepth 20000 in
theorem ggX6_digit_X6_noDigit : GoodIn wsX6_digit wsX6_noDigit := goodIn_r _ [6, 1, 7, 8, 5, 9, 37, 38, 39, 40, 41, 42, 43, 44, 45, 46, 47, 48, 49] (by decide +kernel) (by decide +kernel)
set_option maxRecDepth 20000 in
theorem gX6_digit_X6_noDigit : GoodIn wsX6_digit (wsV RX6 83 RX6 yX6_noDigit wsX6_noDigit) := goodIn_app (goodIn_of _ (by decide +kernel)) ggX6_digit_X6_noDigit
set_option maxRecDepth 20000 in
theorem ggX6_digit_X6_of : GoodIn wsX6_digit wsX6_of := goodIn_r _ [13, 1, 37, 38, 39, 40, 41, 42, 43, 44, 45, 46, 47, 48, 49] (by decide +kernel) (by decide +kernel)
set_option maxRecDepth 20000 in
theorem gX6_digit_X6_of : GoodIn wsX6_digit (wsV RX6 73 RX6 yX6_of wsX6_of) := goodIn_app (goodIn_of _ (by decide +kernel)) ggX6_digit_X6_of
set_option maxRecDepth 20000 in
theorem ggX6_digit_X6_litPart : GoodIn wsX6_digit wsX6_litPart := goodIn_r _ [17, 10, 11, 12, 5, 13, 1, 37, 38, 39, 40, 41, 42, 43, 44, 45, 46, 47, 48, 49] (by decide +kernel) (by decide +kernel)
set_option maxRecDepth 20000 in
theorem gX6_digit_X6_litPart : GoodIn wsX6_digit (wsV RX6 91 RX6 yX6_litPart wsX6_litPart) := goodIn_app (goodIn_of _ (by decide +kernel)) ggX6_digit_X6_litPart
set_option maxRecDepth 20000 in
theorem ggX6_digit_X6_beginOf : GoodIn wsX6_digit wsX6_beginOf := goodIn_r _ [21, 10, 11, 12, 5, 13, 1, 37, 38, 39, 40, 41, 42, 43, 44, 45, 46, 47, 48, 49] (by decide +kernel) (by decide +kernel)
set_option maxRecDepth 20000 in
theorem gX6_digit_X6_beginOf : GoodIn wsX6_digit (wsV RX6 77 RX6 yX6_beginOf wsX6_beginOf) := goodIn_app (goodIn_of _ (by decide +kernel)) ggX6_digit_X6_beginOf
set_option maxRecDepth 20000 in
theorem ggX6_digit_X6_seenOf : GoodIn wsX6_digit wsX6_seenOf := goodIn_r _ [25, 1, 37, 38, 39, 40, 41, 42, 43, 44, 45, 46, 47, 48, 49] (by decide +kernel) (by decide +kernel)
set_option maxRecDepth 20000 in
theorem gX6_digit_X6_seenOf : GoodIn wsX6_digit (wsV RX6 136 RX6 yX6_seenOf wsX6_seenOf) := goodIn_app (goodIn_of _ (by decide +kernel)) ggX6_digit_X6_seenOf
set_option maxRecDepth 20000 in
theorem ggX6_digit_X6_glowOf : GoodIn wsX6_digit wsX6_glowOf := goodIn_r _ [29, 1, 37, 38, 39, 40, 41, 42, 43, 44, 45, 46, 47, 48, 49] (by decide +kernel) (by decide +kernel)
set_option maxRecDepth 20000 in
theorem gX6_digit_X6_glowOf : GoodIn wsX6_digit (wsV RX6 139 RX6 yX6_glowOf wsX6_glowOf) := goodIn_app (goodIn_of _ (by decide +kernel)) ggX6_digit_X6_glowOf
set_option maxRecDepth 20000 in
theorem ggX6_digit_X6_charOf : GoodIn wsX6_digit wsX6_charOf := goodIn_r _ [33, 34, 35, 5, 36] (by decide +kernel) (by decide +kernel)
set_option maxRecDepth 20000 in
theorem gX6_digit_X6_charOf : GoodIn wsX6_digit (wsV RX6 142 RX6 yX6_charOf wsX6_charOf) := goodIn_app (goodIn_of _ (by decide +kernel)) ggX6_digit_X6_charOf
theorem dX6_digit_0 : decode cX6_digit 0 = .ok (.aload_n 0, 1) := by decide +kernel
theorem dX6_digit_1 : decode cX6_digit 1 = .ok (.iload_n 1, 1) := by decide +kernel
theorem dX6_digit_2 : decode cX6_digit 2 = .ok (.invokevirtual 83, 3) := by decide +kernel
theorem dX6_digit_5 : decode cX6_digit 5 = .ok (.ifCond .eq 5, 3) := by decide +kernel
theorem dX6_digit_8 : decode cX6_digit 8 = .ok (.iconst (-1), 1) := by decide +kernel
theorem dX6_digit_9 : decode cX6_digit 9 = .ok (.ireturn, 1) := by decide +kernel
theorem dX6_digit_10 : decode cX6_digit 10 = .ok (.iload_n 2, 1) := by decide +kernel
theorem dX6_digit_11 : decode cX6_digit 11 = .ok (.tableswitch 124 0 11 #[61, 61, 61, 61, 61, 68, 74, 80, 86, 97, 103, 117], 61) := by decide +kernel
theorem dX6_digit_72 : decode cX6_digit 72 = .ok (.aload_n 0, 1) := by decide +kernel
theorem dX6_digit_73 : decode cX6_digit 73 = .ok (.iload_n 1, 1) := by decide +kernel
theorem dX6_digit_74 : decode cX6_digit 74 = .ok (.iload_n 2, 1) := by decide +kernel
theorem dX6_digit_75 : decode cX6_digit 75 = .ok (.invokevirtual 73, 3) := by decide +kernel
theorem dX6_digit_78 : decode cX6_digit 78 = .ok (.ireturn, 1) := by decide +kernel
theorem dX6_digit_79 : decode cX6_digit 79 = .ok (.aload_n 0, 1) := by decide +kernel
theorem dX6_digit_80 : decode cX6_digit 80 = .ok (.iload_n 1, 1) := by decide +kernel
theorem dX6_digit_81 : decode cX6_digit 81 = .ok (.invokevirtual 91, 3) := by decide +kernel
theorem dX6_digit_84 : decode cX6_digit 84 = .ok (.ireturn, 1) := by decide +kernel
theorem dX6_digit_85 : decode cX6_digit 85 = .ok (.aload_n 0, 1) := by decide +kernel
theorem dX6_digit_86 : decode cX6_digit 86 = .ok (.iload_n 1, 1) := by decide +kernel
theorem dX6_digit_87 : decode cX6_digit 87 = .ok (.invokevirtual 77, 3) := by decide +kernel
theorem dX6_digit_90 : decode cX6_digit 90 = .ok (.ireturn, 1) := by decide +kernel
theorem dX6_digit_91 : decode cX6_digit 91 = .ok (.aload_n 0, 1) := by decide +kernel
theorem dX6_digit_92 : decode cX6_digit 92 = .ok (.iload_n 1, 1) := by decide +kernel
theorem dX6_digit_93 : decode cX6_digit 93 = .ok (.invokevirtual 136, 3) := by decide +kernel
theorem dX6_digit_96 : decode cX6_digit 96 = .ok (.ireturn, 1) := by decide +kernel
theorem dX6_digit_97 : decode cX6_digit 97 = .ok (.aload_n 0, 1) := by decide +kernel
theorem dX6_digit_98 : decode cX6_digit 98 = .ok (.getfield 7, 3) := by decide +kernel
theorem dX6_digit_101 : decode cX6_digit 101 = .ok (.sipush 192, 3) := by decide +kernel
theorem dX6_digit_104 : decode cX6_digit 104 = .ok (.iload_n 1, 1) := by decide +kernel
theorem dX6_digit_105 : decode cX6_digit 105 = .ok (.iadd, 1) := by decide +kernel
theorem dX6_digit_106 : decode cX6_digit 106 = .ok (.iaload, 1) := by decide +kernel
theorem dX6_digit_107 : decode cX6_digit 107 = .ok (.ireturn, 1) := by decide +kernel
theorem dX6_digit_108 : decode cX6_digit 108 = .ok (.aload_n 0, 1) := by decide +kernel
theorem dX6_digit_109 : decode cX6_digit 109 = .ok (.iload_n 1, 1) := by decide +kernel
theorem dX6_digit_110 : decode cX6_digit 110 = .ok (.invokevirtual 139, 3) := by decide +kernel
theorem dX6_digit_113 : decode cX6_digit 113 = .ok (.ireturn, 1) := by decide +kernel
theorem dX6_digit_114 : decode cX6_digit 114 = .ok (.aload_n 0, 1) := by decide +kernel
theorem dX6_digit_115 : decode cX6_digit 115 = .ok (.aload_n 0, 1) := by decide +kernel
theorem dX6_digit_116 : decode cX6_digit 116 = .ok (.iload_n 1, 1) := by decide +kernel
theorem dX6_digit_117 : decode cX6_digit 117 = .ok (.iconst 0, 1) := by decide +kernel
theorem dX6_digit_118 : decode cX6_digit 118 = .ok (.invokevirtual 73, 3) := by decide +kernel
theorem dX6_digit_121 : decode cX6_digit 121 = .ok (.bipush 127, 2) := by decide +kernel
theorem dX6_digit_123 : decode cX6_digit 123 = .ok (.iand, 1) := by decide +kernel
theorem dX6_digit_124 : decode cX6_digit 124 = .ok (.invokevirtual 142, 3) := by decide +kernel
theorem dX6_digit_127 : decode cX6_digit 127 = .ok (.ireturn, 1) := by decide +kernel
theorem dX6_digit_128 : decode cX6_digit 128 = .ok (.aload_n 0, 1) := by decide +kernel
theorem dX6_digit_129 : decode cX6_digit 129 = .ok (.iload_n 1, 1) := by decide +kernel
theorem dX6_digit_130 : decode cX6_digit 130 = .ok (.iconst 5, 1) := by decide +kernel
theorem dX6_digit_131 : decode cX6_digit 131 = .ok (.invokevirtual 73, 3) := by decide +kernel
theorem dX6_digit_134 : decode cX6_digit 134 = .ok (.ireturn, 1) := by decide +kernel
theorem dX6_digit_135 : decode cX6_digit 135 = .ok (.bipush (-2), 2) := by decide +kernel
theorem dX6_digit_137 : decode cX6_digit 137 = .ok (.ireturn, 1) := by decide +kernel
set_option maxRecDepth 20000 in
theorem ggX6_segment_X6_noDigit : GoodIn wsX6_segment wsX6_noDigit := goodIn_r _ [6, 1, 7, 8, 5, 9, 14, 15, 16, 17, 18, 19, 20, 21, 22, 23, 24, 25, 26] (by decide +kernel) (by decide +kernel)
set_option maxRecDepth 20000 in
theorem gX6_segment_X6_noDigit : GoodIn wsX6_segment (wsV RX6 83 RX6 yX6_noDigit wsX6_noDigit) := goodIn_app (goodIn_of _ (by decide +kernel)) ggX6_segment_X6_noDigit
set_option maxRecDepth 20000 in
theorem ggX6_segment_X6_in : GoodIn wsX6_segment wsX6_in := goodIn_r _ [9] (by decide +kernel) (by decide +kernel)
set_option maxRecDepth 20000 in
theorem gX6_segment_X6_in : GoodIn wsX6_segment (va_wsS RX6 55 yX6_in wsX6_in) := goodIn_app (goodIn_of _ (by decide +kernel)) ggX6_segment_X6_in
set_option maxRecDepth 20000 in
theorem ggX6_segment_X6_seenOf : GoodIn wsX6_segment wsX6_seenOf := goodIn_r _ [13, 1, 14, 15, 16, 17, 18, 19, 20, 21, 22, 23, 24, 25, 26] (by decide +kernel) (by decide +kernel)
set_option maxRecDepth 20000 in
theorem gX6_segment_X6_seenOf : GoodIn wsX6_segment (wsV RX6 136 RX6 yX6_seenOf wsX6_seenOf) := goodIn_app (goodIn_of _ (by decide +kernel)) ggX6_segment_X6_seenOf
theorem dX6_segment_0 : decode cX6_segment 0 = .ok (.aload_n 0, 1) := by decide +kernel
theorem dX6_segment_1 : decode cX6_segment 1 = .ok (.iload_n 1, 1) := by decide +kernel
theorem dX6_segment_2 : decode cX6_segment 2 = .ok (.invokevirtual 83, 3) := by decide +kernel
theorem dX6_segment_5 : decode cX6_segment 5 = .ok (.ifCond .ne 13, 3) := by decide +kernel
theorem dX6_segment_8 : decode cX6_segment 8 = .ok (.iload_n 2, 1) := by decide +kernel
theorem dX6_segment_9 : decode cX6_segment 9 = .ok (.iconst 0, 1) := by decide +kernel
theorem dX6_segment_10 : decode cX6_segment 10 = .ok (.bipush 7, 2) := by decide +kernel
theorem dX6_segment_12 : decode cX6_segment 12 = .ok (.invokestatic 55, 3) := by decide +kernel
theorem dX6_segment_15 : decode cX6_segment 15 = .ok (.ifCond .ne 5, 3) := by decide +kernel
theorem dX6_segment_18 : decode cX6_segment 18 = .ok (.iconst (-1), 1) := by decide +kernel
theorem dX6_segment_19 : decode cX6_segment 19 = .ok (.ireturn, 1) := by decide +kernel
theorem dX6_segment_20 : decode cX6_segment 20 = .ok (.iload_n 3, 1) := by decide +kernel
theorem dX6_segment_21 : decode cX6_segment 21 = .ok (.tableswitch 87 0 3 #[31, 46, 62, 77], 31) := by decide +kernel
theorem dX6_segment_52 : decode cX6_segment 52 = .ok (.aload_n 0, 1) := by decide +kernel
theorem dX6_segment_53 : decode cX6_segment 53 = .ok (.getfield 7, 3) := by decide +kernel
theorem dX6_segment_56 : decode cX6_segment 56 = .ok (.bipush 64, 2) := by decide +kernel
theorem dX6_segment_58 : decode cX6_segment 58 = .ok (.bipush 8, 2) := by decide +kernel
theorem dX6_segment_60 : decode cX6_segment 60 = .ok (.iload_n 1, 1) := by decide +kernel
theorem dX6_segment_61 : decode cX6_segment 61 = .ok (.imul, 1) := by decide +kernel
theorem dX6_segment_62 : decode cX6_segment 62 = .ok (.iadd, 1) := by decide +kernel
theorem dX6_segment_63 : decode cX6_segment 63 = .ok (.iload_n 2, 1) := by decide +kernel
theorem dX6_segment_64 : decode cX6_segment 64 = .ok (.iadd, 1) := by decide +kernel
theorem dX6_segment_65 : decode cX6_segment 65 = .ok (.iaload, 1) := by decide +kernel
theorem dX6_segment_66 : decode cX6_segment 66 = .ok (.ireturn, 1) := by decide +kernel
theorem dX6_segment_67 : decode cX6_segment 67 = .ok (.aload_n 0, 1) := by decide +kernel
theorem dX6_segment_68 : decode cX6_segment 68 = .ok (.getfield 7, 3) := by decide +kernel
theorem dX6_segment_71 : decode cX6_segment 71 = .ok (.sipush 128, 3) := by decide +kernel
theorem dX6_segment_74 : decode cX6_segment 74 = .ok (.bipush 8, 2) := by decide +kernel
theorem dX6_segment_76 : decode cX6_segment 76 = .ok (.iload_n 1, 1) := by decide +kernel
theorem dX6_segment_77 : decode cX6_segment 77 = .ok (.imul, 1) := by decide +kernel
theorem dX6_segment_78 : decode cX6_segment 78 = .ok (.iadd, 1) := by decide +kernel
theorem dX6_segment_79 : decode cX6_segment 79 = .ok (.iload_n 2, 1) := by decide +kernel
theorem dX6_segment_80 : decode cX6_segment 80 = .ok (.iadd, 1) := by decide +kernel
theorem dX6_segment_81 : decode cX6_segment 81 = .ok (.iaload, 1) := by decide +kernel
theorem dX6_segment_82 : decode cX6_segment 82 = .ok (.ireturn, 1) := by decide +kernel
theorem dX6_segment_83 : decode cX6_segment 83 = .ok (.aload_n 0, 1) := by decide +kernel
theorem dX6_segment_84 : decode cX6_segment 84 = .ok (.getfield 7, 3) := by decide +kernel
theorem dX6_segment_87 : decode cX6_segment 87 = .ok (.sipush 192, 3) := by decide +kernel
theorem dX6_segment_90 : decode cX6_segment 90 = .ok (.iload_n 1, 1) := by decide +kernel
theorem dX6_segment_91 : decode cX6_segment 91 = .ok (.iadd, 1) := by decide +kernel
theorem dX6_segment_92 : decode cX6_segment 92 = .ok (.iaload, 1) := by decide +kernel
theorem dX6_segment_93 : decode cX6_segment 93 = .ok (.iload_n 2, 1) := by decide +kernel
theorem dX6_segment_94 : decode cX6_segment 94 = .ok (.ishr, 1) := by decide +kernel
theorem dX6_segment_95 : decode cX6_segment 95 = .ok (.iconst 1, 1) := by decide +kernel
theorem dX6_segment_96 : decode cX6_segment 96 = .ok (.iand, 1) := by decide +kernel
theorem dX6_segment_97 : decode cX6_segment 97 = .ok (.ireturn, 1) := by decide +kernel
theorem dX6_segment_98 : decode cX6_segment 98 = .ok (.aload_n 0, 1) := by decide +kernel
theorem dX6_segment_99 : decode cX6_segment 99 = .ok (.iload_n 1, 1) := by decide +kernel
theorem dX6_segment_100 : decode cX6_segment 100 = .ok (.invokevirtual 136, 3) := by decide +kernel
theorem dX6_segment_103 : decode cX6_segment 103 = .ok (.iload_n 2, 1) := by decide +kernel
theorem dX6_segment_104 : decode cX6_segment 104 = .ok (.ishr, 1) := by decide +kernel
theorem dX6_segment_105 : decode cX6_segment 105 = .ok (.iconst 1, 1) := by decide +kernel
theorem dX6_segment_106 : decode cX6_segment 106 = .ok (.iand, 1) := by decide +kernel
theorem dX6_segment_107 : decode cX6_segment 107 = .ok (.ireturn, 1) := by decide +kernel
theorem dX6_segment_108 : decode cX6_segment 108 = .ok (.bipush (-2), 2) := by decide +kernel
theorem dX6_segment_110 : decode cX6_segment 110 = .ok (.ireturn, 1) := by decide +kernel
set_option maxRecDepth 20000 in
theorem ggX6_litIn_X6_noDigit : GoodIn wsX6_litIn wsX6_noDigit := goodIn_r _ [5, 6, 7, 8, 4, 9, 79, 80, 81, 82, 83, 84, 85, 86, 87, 88, 89, 90, 91] (by decide +kernel) (by decide +kernel)
set_option maxRecDepth 20000 in
theorem gX6_litIn_X6_noDigit : GoodIn wsX6_litIn (wsV RX6 83 RX6 yX6_noDigit wsX6_noDigit) := goodIn_app (goodIn_of _ (by decide +kernel)) ggX6_litIn_X6_noDigit
set_option maxRecDepth 20000 in
theorem ggX6_litIn_X6_in : GoodIn wsX6_litIn wsX6_in := goodIn_r _ [9] (by decide +kernel) (by decide +kernel)
set_option maxRecDepth 20000 in
theorem gX6_litIn_X6_in : GoodIn wsX6_litIn (va_wsS RX6 55 yX6_in wsX6_in) := goodIn_app (goodIn_of _ (by decide +kernel)) ggX6_litIn_X6_in
set_option maxRecDepth 20000 in
theorem ggX6_litIn_X6_begin : GoodIn wsX6_litIn wsX6_begin := goodIn_r _ [13, 14, 6, 15, 16, 79, 80, 81, 82, 83, 84, 85, 86, 87, 88, 89, 90, 91] (by decide +kernel) (by decide +kernel)
set_option maxRecDepth 20000 in
theorem gX6_litIn_X6_begin : GoodIn wsX6_litIn (wsV RX6 59 RX6 yX6_begin wsX6_begin) := goodIn_app (goodIn_of _ (by decide +kernel)) ggX6_litIn_X6_begin
set_option maxRecDepth 20000 in
theorem ggX6_litIn_X6_tick : GoodIn wsX6_litIn wsX6_tick := goodIn_r _ [20, 6, 16, 21, 22, 23, 24, 25, 26, 4, 27, 28, 29, 30, 31, 32, 33, 34, 35, 36, 37, 38, 39, 40, 41, 42, 43, 44, 45, 46, 47, 48, 49, 50, 51, 52, 53, 54, 55, 56, 57, 58, 59, 60, 61, 62, 63, 64, 65, 66, 67, 68, 69, 70, 71, 72, 73, 74, 79, 80, 81, 82, 83, 84, 85, 86, 87, 88, 89, 90, 91] (by decide +kernel) (by decide +kernel)
set_option maxRecDepth 20000 in
theorem gX6_litIn_X6_tick : GoodIn wsX6_litIn (wsV RX6 126 RX6 yX6_tick wsX6_tick) := goodIn_app (goodIn_of _ (by decide +kernel)) ggX6_litIn_X6_tick
set_option maxRecDepth 20000 in
theorem ggX6_litIn_X6_litNow : GoodIn wsX6_litIn wsX6_litNow := goodIn_r _ [39, 6, 24, 25, 26, 4, 27, 28, 29, 30, 31, 32, 33, 34, 35, 40, 41, 42, 43, 44, 45, 46, 47, 48, 49, 50, 51, 79, 80, 81, 82, 83, 84, 85, 86, 87, 88, 89, 90, 91] (by decide +kernel) (by decide +kernel)
set_option maxRecDepth 20000 in
theorem gX6_litIn_X6_litNow : GoodIn wsX6_litIn (wsV RX6 116 RX6 yX6_litNow wsX6_litNow) := goodIn_app (goodIn_of _ (by decide +kernel)) ggX6_litIn_X6_litNow
set_option maxRecDepth 20000 in
theorem ggX6_litIn_X6_goBack : GoodIn wsX6_litIn wsX6_goBack := goodIn_r _ [78, 6, 14, 16, 15, 79, 80, 81, 82, 83, 84, 85, 86, 87, 88, 89, 90, 91] (by decide +kernel) (by decide +kernel)
set_option maxRecDepth 20000 in
theorem gX6_litIn_X6_goBack : GoodIn wsX6_litIn (wsV RX6 145 RX6 yX6_goBack wsX6_goBack) := goodIn_app (goodIn_of _ (by decide +kernel)) ggX6_litIn_X6_goBack
theorem dX6_litIn_0 : decode cX6_litIn 0 = .ok (.aload_n 0, 1) := by decide +kernel
theorem dX6_litIn_1 : decode cX6_litIn 1 = .ok (.iload_n 1, 1) := by decide +kernel
theorem dX6_litIn_2 : decode cX6_litIn 2 = .ok (.invokevirtual 83, 3) := by decide +kernel
theorem dX6_litIn_5 : decode cX6_litIn 5 = .ok (.ifCond .eq 5, 3) := by decide +kernel
theorem dX6_litIn_8 : decode cX6_litIn 8 = .ok (.iconst (-1), 1) := by decide +kernel
theorem dX6_litIn_9 : decode cX6_litIn 9 = .ok (.ireturn, 1) := by decide +kernel
theorem dX6_litIn_10 : decode cX6_litIn 10 = .ok (.iload_n 2, 1) := by decide +kernel
theorem dX6_litIn_11 : decode cX6_litIn 11 = .ok (.iconst 0, 1) := by decide +kernel
theorem dX6_litIn_12 : decode cX6_litIn 12 = .ok (.sipush 500, 3) := by decide +kernel
theorem dX6_litIn_15 : decode cX6_litIn 15 = .ok (.invokestatic 55, 3) := by decide +kernel
theorem dX6_litIn_18 : decode cX6_litIn 18 = .ok (.ifCond .ne 6, 3) := by decide +kernel
theorem dX6_litIn_21 : decode cX6_litIn 21 = .ok (.bipush (-2), 2) := by decide +kernel
theorem dX6_litIn_23 : decode cX6_litIn 23 = .ok (.ireturn, 1) := by decide +kernel
theorem dX6_litIn_24 : decode cX6_litIn 24 = .ok (.aload_n 0, 1) := by decide +kernel
theorem dX6_litIn_25 : decode cX6_litIn 25 = .ok (.invokevirtual 59, 3) := by decide +kernel
theorem dX6_litIn_28 : decode cX6_litIn 28 = .ok (.iconst 0, 1) := by decide +kernel
theorem dX6_litIn_29 : decode cX6_litIn 29 = .ok (.istore_n 3, 1) := by decide +kernel
theorem dX6_litIn_30 : decode cX6_litIn 30 = .ok (.iload_n 3, 1) := by decide +kernel
theorem dX6_litIn_31 : decode cX6_litIn 31 = .ok (.iload_n 2, 1) := by decide +kernel
theorem dX6_litIn_32 : decode cX6_litIn 32 = .ok (.if_icmp .ge 15, 3) := by decide +kernel
theorem dX6_litIn_35 : decode cX6_litIn 35 = .ok (.aload_n 0, 1) := by decide +kernel
theorem dX6_litIn_36 : decode cX6_litIn 36 = .ok (.invokevirtual 126, 3) := by decide +kernel
theorem dX6_litIn_39 : decode cX6_litIn 39 = .ok (.istore 4, 2) := by decide +kernel
theorem dX6_litIn_41 : decode cX6_litIn 41 = .ok (.iinc 3 1, 3) := by decide +kernel
theorem dX6_litIn_44 : decode cX6_litIn 44 = .ok (.goto (-14), 3) := by decide +kernel
theorem dX6_litIn_47 : decode cX6_litIn 47 = .ok (.aload_n 0, 1) := by decide +kernel
theorem dX6_litIn_48 : decode cX6_litIn 48 = .ok (.iload_n 1, 1) := by decide +kernel
theorem dX6_litIn_49 : decode cX6_litIn 49 = .ok (.invokevirtual 116, 3) := by decide +kernel
theorem dX6_litIn_52 : decode cX6_litIn 52 = .ok (.istore_n 3, 1) := by decide +kernel
theorem dX6_litIn_53 : decode cX6_litIn 53 = .ok (.aload_n 0, 1) := by decide +kernel
theorem dX6_litIn_54 : decode cX6_litIn 54 = .ok (.invokevirtual 145, 3) := by decide +kernel
theorem dX6_litIn_57 : decode cX6_litIn 57 = .ok (.iload_n 3, 1) := by decide +kernel
theorem dX6_litIn_58 : decode cX6_litIn 58 = .ok (.ireturn, 1) := by decide +kernel
set_option maxRecDepth 20000 in
theorem ggX6_steadyGlow_X6_noDigit : GoodIn wsX6_steadyGlow wsX6_noDigit := goodIn_r _ [5, 6, 7, 8, 4, 9, 33, 34, 35, 36, 37, 38, 39, 40, 41, 42, 43, 44, 45] (by decide +kernel) (by decide +kernel)
set_option maxRecDepth 20000 in
theorem gX6_steadyGlow_X6_noDigit : GoodIn wsX6_steadyGlow (wsV RX6 83 RX6 yX6_noDigit wsX6_noDigit) := goodIn_app (goodIn_of _ (by decide +kernel)) ggX6_steadyGlow_X6_noDigit
set_option maxRecDepth 20000 in
theorem ggX6_steadyGlow_X6_litPart : GoodIn wsX6_steadyGlow wsX6_litPart := goodIn_r _ [13, 14, 15, 16, 4, 17, 6, 33, 34, 35, 36, 37, 38, 39, 40, 41, 42, 43, 44, 45] (by decide +kernel) (by decide +kernel)
set_option maxRecDepth 20000 in
theorem gX6_steadyGlow_X6_litPart : GoodIn wsX6_steadyGlow (wsV RX6 91 RX6 yX6_litPart wsX6_litPart) := goodIn_app (goodIn_of _ (by decide +kernel)) ggX6_steadyGlow_X6_litPart
set_option maxRecDepth 20000 in
theorem ggX6_steadyGlow_X6_frameLength : GoodIn wsX6_steadyGlow wsX6_frameLength := goodIn_r _ [21, 6, 22, 23, 24, 4, 25, 14, 15, 16, 17, 33, 34, 35, 36, 37, 38, 39, 40, 41, 42, 43, 44, 45] (by decide +kernel) (by decide +kernel)
set_option maxRecDepth 20000 in
theorem gX6_steadyGlow_X6_frameLength : GoodIn wsX6_steadyGlow (wsV RX6 87 RX6 yX6_frameLength wsX6_frameLength) := goodIn_app (goodIn_of _ (by decide +kernel)) ggX6_steadyGlow_X6_frameLength
set_option maxRecDepth 20000 in
theorem ggX6_steadyGlow_X6_brighter : GoodIn wsX6_steadyGlow wsX6_brighter := goodIn_r _ [28] (by decide +kernel) (by decide +kernel)
set_option maxRecDepth 20000 in
theorem gX6_steadyGlow_X6_brighter : GoodIn wsX6_steadyGlow (va_wsS RX6 110 yX6_brighter wsX6_brighter) := goodIn_app (goodIn_of _ (by decide +kernel)) ggX6_steadyGlow_X6_brighter
set_option maxRecDepth 20000 in
theorem ggX6_steadyGlow_X6_darker : GoodIn wsX6_steadyGlow wsX6_darker := goodIn_r _ [32, 6, 33, 34, 35, 36, 37, 38, 39, 40, 41, 42, 43, 44, 45] (by decide +kernel) (by decide +kernel)
set_option maxRecDepth 20000 in
theorem gX6_steadyGlow_X6_darker : GoodIn wsX6_steadyGlow (wsV RX6 113 RX6 yX6_darker wsX6_darker) := goodIn_app (goodIn_of _ (by decide +kernel)) ggX6_steadyGlow_X6_darker
theorem dX6_steadyGlow_0 : decode cX6_steadyGlow 0 = .ok (.aload_n 0, 1) := by decide +kernel
theorem dX6_steadyGlow_1 : decode cX6_steadyGlow 1 = .ok (.iload_n 1, 1) := by decide +kernel
theorem dX6_steadyGlow_2 : decode cX6_steadyGlow 2 = .ok (.invokevirtual 83, 3) := by decide +kernel
theorem dX6_steadyGlow_5 : decode cX6_steadyGlow 5 = .ok (.ifCond .eq 5, 3) := by decide +kernel
theorem dX6_steadyGlow_8 : decode cX6_steadyGlow 8 = .ok (.iconst (-1), 1) := by decide +kernel
theorem dX6_steadyGlow_9 : decode cX6_steadyGlow 9 = .ok (.ireturn, 1) := by decide +kernel
theorem dX6_steadyGlow_10 : decode cX6_steadyGlow 10 = .ok (.aload_n 0, 1) := by decide +kernel
theorem dX6_steadyGlow_11 : decode cX6_steadyGlow 11 = .ok (.iload_n 1, 1) := by decide +kernel
theorem dX6_steadyGlow_12 : decode cX6_steadyGlow 12 = .ok (.invokevirtual 91, 3) := by decide +kernel
theorem dX6_steadyGlow_15 : decode cX6_steadyGlow 15 = .ok (.istore_n 2, 1) := by decide +kernel
theorem dX6_steadyGlow_16 : decode cX6_steadyGlow 16 = .ok (.aload_n 0, 1) := by decide +kernel
theorem dX6_steadyGlow_17 : decode cX6_steadyGlow 17 = .ok (.invokevirtual 87, 3) := by decide +kernel
theorem dX6_steadyGlow_20 : decode cX6_steadyGlow 20 = .ok (.iload_n 2, 1) := by decide +kernel
theorem dX6_steadyGlow_21 : decode cX6_steadyGlow 21 = .ok (.isub, 1) := by decide +kernel
theorem dX6_steadyGlow_22 : decode cX6_steadyGlow 22 = .ok (.istore_n 3, 1) := by decide +kernel
theorem dX6_steadyGlow_23 : decode cX6_steadyGlow 23 = .ok (.bipush (-4), 2) := by decide +kernel
theorem dX6_steadyGlow_25 : decode cX6_steadyGlow 25 = .ok (.istore 4, 2) := by decide +kernel
theorem dX6_steadyGlow_27 : decode cX6_steadyGlow 27 = .ok (.iconst 0, 1) := by decide +kernel
theorem dX6_steadyGlow_28 : decode cX6_steadyGlow 28 = .ok (.istore 5, 2) := by decide +kernel
theorem dX6_steadyGlow_30 : decode cX6_steadyGlow 30 = .ok (.iconst 0, 1) := by decide +kernel
theorem dX6_steadyGlow_31 : decode cX6_steadyGlow 31 = .ok (.istore 6, 2) := by decide +kernel
theorem dX6_steadyGlow_33 : decode cX6_steadyGlow 33 = .ok (.iload_n 2, 1) := by decide +kernel
theorem dX6_steadyGlow_34 : decode cX6_steadyGlow 34 = .ok (.ifCond .le 76, 3) := by decide +kernel
theorem dX6_steadyGlow_37 : decode cX6_steadyGlow 37 = .ok (.iload 5, 2) := by decide +kernel
theorem dX6_steadyGlow_39 : decode cX6_steadyGlow 39 = .ok (.iload 4, 2) := by decide +kernel
theorem dX6_steadyGlow_41 : decode cX6_steadyGlow 41 = .ok (.if_icmp .eq 69, 3) := by decide +kernel
theorem dX6_steadyGlow_44 : decode cX6_steadyGlow 44 = .ok (.iload 5, 2) := by decide +kernel
theorem dX6_steadyGlow_46 : decode cX6_steadyGlow 46 = .ok (.ifCond .ne 8, 3) := by decide +kernel
theorem dX6_steadyGlow_49 : decode cX6_steadyGlow 49 = .ok (.bipush (-4), 2) := by decide +kernel
theorem dX6_steadyGlow_51 : decode cX6_steadyGlow 51 = .ok (.goto 5, 3) := by decide +kernel
theorem dX6_steadyGlow_54 : decode cX6_steadyGlow 54 = .ok (.iload 5, 2) := by decide +kernel
theorem dX6_steadyGlow_56 : decode cX6_steadyGlow 56 = .ok (.istore 4, 2) := by decide +kernel
theorem dX6_steadyGlow_58 : decode cX6_steadyGlow 58 = .ok (.iconst 0, 1) := by decide +kernel
theorem dX6_steadyGlow_59 : decode cX6_steadyGlow 59 = .ok (.istore 7, 2) := by decide +kernel
theorem dX6_steadyGlow_61 : decode cX6_steadyGlow 61 = .ok (.iload 7, 2) := by decide +kernel
theorem dX6_steadyGlow_63 : decode cX6_steadyGlow 63 = .ok (.iload_n 2, 1) := by decide +kernel
theorem dX6_steadyGlow_64 : decode cX6_steadyGlow 64 = .ok (.if_icmp .ge 16, 3) := by decide +kernel
theorem dX6_steadyGlow_67 : decode cX6_steadyGlow 67 = .ok (.iload 6, 2) := by decide +kernel
theorem dX6_steadyGlow_69 : decode cX6_steadyGlow 69 = .ok (.invokestatic 110, 3) := by decide +kernel
theorem dX6_steadyGlow_72 : decode cX6_steadyGlow 72 = .ok (.istore 6, 2) := by decide +kernel
theorem dX6_steadyGlow_74 : decode cX6_steadyGlow 74 = .ok (.iinc 7 1, 3) := by decide +kernel
theorem dX6_steadyGlow_77 : decode cX6_steadyGlow 77 = .ok (.goto (-16), 3) := by decide +kernel
theorem dX6_steadyGlow_80 : decode cX6_steadyGlow 80 = .ok (.iload 6, 2) := by decide +kernel
theorem dX6_steadyGlow_82 : decode cX6_steadyGlow 82 = .ok (.istore 5, 2) := by decide +kernel
theorem dX6_steadyGlow_84 : decode cX6_steadyGlow 84 = .ok (.iconst 0, 1) := by decide +kernel
theorem dX6_steadyGlow_85 : decode cX6_steadyGlow 85 = .ok (.istore 7, 2) := by decide +kernel
theorem dX6_steadyGlow_87 : decode cX6_steadyGlow 87 = .ok (.iload 7, 2) := by decide +kernel
theorem dX6_steadyGlow_89 : decode cX6_steadyGlow 89 = .ok (.iload_n 3, 1) := by decide +kernel
theorem dX6_steadyGlow_90 : decode cX6_steadyGlow 90 = .ok (.if_icmp .ge 17, 3) := by decide +kernel
theorem dX6_steadyGlow_93 : decode cX6_steadyGlow 93 = .ok (.aload_n 0, 1) := by decide +kernel
theorem dX6_steadyGlow_94 : decode cX6_steadyGlow 94 = .ok (.iload 6, 2) := by decide +kernel
theorem dX6_steadyGlow_96 : decode cX6_steadyGlow 96 = .ok (.invokevirtual 113, 3) := by decide +kernel
theorem dX6_steadyGlow_99 : decode cX6_steadyGlow 99 = .ok (.istore 6, 2) := by decide +kernel
theorem dX6_steadyGlow_101 : decode cX6_steadyGlow 101 = .ok (.iinc 7 1, 3) := by decide +kernel
theorem dX6_steadyGlow_104 : decode cX6_steadyGlow 104 = .ok (.goto (-17), 3) := by decide +kernel
theorem dX6_steadyGlow_107 : decode cX6_steadyGlow 107 = .ok (.goto (-74), 3) := by decide +kernel
theorem dX6_steadyGlow_110 : decode cX6_steadyGlow 110 = .ok (.iload 5, 2) := by decide +kernel
theorem dX6_steadyGlow_112 : decode cX6_steadyGlow 112 = .ok (.ireturn, 1) := by decide +kernel
set_option maxRecDepth 20000 in
theorem ggX6_current_X6_in : GoodIn wsX6_current wsX6_in := goodIn_r _ [5] (by decide +kernel) (by decide +kernel)
set_option maxRecDepth 20000 in
theorem gX6_current_X6_in : GoodIn wsX6_current (va_wsS RX6 55 yX6_in wsX6_in) := goodIn_app (goodIn_of _ (by decide +kernel)) ggX6_current_X6_in
theorem dX6_current_0 : decode cX6_current 0 = .ok (.iload_n 1, 1) := by decide +kernel
theorem dX6_current_1 : decode cX6_current 1 = .ok (.iconst 0, 1) := by decide +kernel
theorem dX6_current_2 : decode cX6_current 2 = .ok (.iconst 2, 1) := by decide +kernel
theorem dX6_current_3 : decode cX6_current 3 = .ok (.invokestatic 55, 3) := by decide +kernel
theorem dX6_current_6 : decode cX6_current 6 = .ok (.ifCond .eq 12, 3) := by decide +kernel
theorem dX6_current_9 : decode cX6_current 9 = .ok (.aload_n 0, 1) := by decide +kernel
theorem dX6_current_10 : decode cX6_current 10 = .ok (.getfield 13, 3) := by decide +kernel
theorem dX6_current_13 : decode cX6_current 13 = .ok (.iload_n 1, 1) := by decide +kernel
theorem dX6_current_14 : decode cX6_current 14 = .ok (.faload, 1) := by decide +kernel
theorem dX6_current_15 : decode cX6_current 15 = .ok (.goto 4, 3) := by decide +kernel
theorem dX6_current_18 : decode cX6_current 18 = .ok (.fconst 0, 1) := by decide +kernel
theorem dX6_current_19 : decode cX6_current 19 = .ok (.freturn, 1) := by decide +kernel
set_option maxRecDepth 20000 in
theorem ggX6_thousandths_X6_in : GoodIn wsX6_thousandths wsX6_in := goodIn_r _ [6] (by decide +kernel) (by decide +kernel)
set_option maxRecDepth 20000 in
theorem gX6_thousandths_X6_in : GoodIn wsX6_thousandths (va_wsS RX6 55 yX6_in wsX6_in) := goodIn_app (goodIn_of _ (by decide +kernel)) ggX6_thousandths_X6_in
theorem dX6_thousandths_0 : decode cX6_thousandths 0 = .ok (.iload_n 1, 1) := by decide +kernel
theorem dX6_thousandths_1 : decode cX6_thousandths 1 = .ok (.iconst 0, 1) := by decide +kernel
theorem dX6_thousandths_2 : decode cX6_thousandths 2 = .ok (.iconst 2, 1) := by decide +kernel
theorem dX6_thousandths_3 : decode cX6_thousandths 3 = .ok (.invokestatic 55, 3) := by decide +kernel
theorem dX6_thousandths_6 : decode cX6_thousandths 6 = .ok (.ifCond .eq 16, 3) := by decide +kernel
theorem dX6_thousandths_9 : decode cX6_thousandths 9 = .ok (.aload_n 0, 1) := by decide +kernel
theorem dX6_thousandths_10 : decode cX6_thousandths 10 = .ok (.getfield 13, 3) := by decide +kernel
theorem dX6_thousandths_13 : decode cX6_thousandths 13 = .ok (.iload_n 1, 1) := by decide +kernel
theorem dX6_thousandths_14 : decode cX6_thousandths 14 = .ok (.faload, 1) := by decide +kernel
theorem dX6_thousandths_15 : decode cX6_thousandths 15 = .ok (.ldc 148, 2) := by decide +kernel
theorem dX6_thousandths_17 : decode cX6_thousandths 17 = .ok (.fmul, 1) := by decide +kernel
theorem dX6_thousandths_18 : decode cX6_thousandths 18 = .ok (.f2i, 1) := by decide +kernel
theorem dX6_thousandths_19 : decode cX6_thousandths 19 = .ok (.goto 5, 3) := by decide +kernel
theorem dX6_thousandths_22 : decode cX6_thousandths 22 = .ok (.bipush (-2), 2) := by decide +kernel
theorem dX6_thousandths_24 : decode cX6_thousandths 24 = .ok (.ireturn, 1) := by decide +kernel
set_option maxRecDepth 20000 in
theorem ggX6_duty_X6_noDigit : GoodIn wsX6_duty wsX6_noDigit := goodIn_r _ [6, 1, 7, 8, 5, 9, 14, 15, 16, 17, 18, 19, 20, 21, 22, 23, 24, 25, 26] (by decide +kernel) (by decide +kernel)
set_option maxRecDepth 20000 in
theorem gX6_duty_X6_noDigit : GoodIn wsX6_duty (wsV RX6 83 RX6 yX6_noDigit wsX6_noDigit) := goodIn_app (goodIn_of _ (by decide +kernel)) ggX6_duty_X6_noDigit
set_option maxRecDepth 20000 in
theorem ggX6_duty_X6_of : GoodIn wsX6_duty wsX6_of := goodIn_r _ [13, 1, 14, 15, 16, 17, 18, 19, 20, 21, 22, 23, 24, 25, 26] (by decide +kernel) (by decide +kernel)
set_option maxRecDepth 20000 in
theorem gX6_duty_X6_of : GoodIn wsX6_duty (wsV RX6 73 RX6 yX6_of wsX6_of) := goodIn_app (goodIn_of _ (by decide +kernel)) ggX6_duty_X6_of
theorem dX6_duty_0 : decode cX6_duty 0 = .ok (.aload_n 0, 1) := by decide +kernel
theorem dX6_duty_1 : decode cX6_duty 1 = .ok (.iload_n 1, 1) := by decide +kernel
theorem dX6_duty_2 : decode cX6_duty 2 = .ok (.invokevirtual 83, 3) := by decide +kernel
theorem dX6_duty_5 : decode cX6_duty 5 = .ok (.ifCond .ne 12, 3) := by decide +kernel
theorem dX6_duty_8 : decode cX6_duty 8 = .ok (.aload_n 0, 1) := by decide +kernel
theorem dX6_duty_9 : decode cX6_duty 9 = .ok (.getfield 7, 3) := by decide +kernel
theorem dX6_duty_12 : decode cX6_duty 12 = .ok (.iconst 1, 1) := by decide +kernel
theorem dX6_duty_13 : decode cX6_duty 13 = .ok (.iaload, 1) := by decide +kernel
theorem dX6_duty_14 : decode cX6_duty 14 = .ok (.ifCond .ne 7, 3) := by decide +kernel
theorem dX6_duty_17 : decode cX6_duty 17 = .ok (.fconst 0, 1) := by decide +kernel
theorem dX6_duty_18 : decode cX6_duty 18 = .ok (.goto 18, 3) := by decide +kernel
theorem dX6_duty_21 : decode cX6_duty 21 = .ok (.aload_n 0, 1) := by decide +kernel
theorem dX6_duty_22 : decode cX6_duty 22 = .ok (.iload_n 1, 1) := by decide +kernel
theorem dX6_duty_23 : decode cX6_duty 23 = .ok (.iconst 5, 1) := by decide +kernel
theorem dX6_duty_24 : decode cX6_duty 24 = .ok (.invokevirtual 73, 3) := by decide +kernel
theorem dX6_duty_27 : decode cX6_duty 27 = .ok (.i2f, 1) := by decide +kernel
theorem dX6_duty_28 : decode cX6_duty 28 = .ok (.aload_n 0, 1) := by decide +kernel
theorem dX6_duty_29 : decode cX6_duty 29 = .ok (.getfield 7, 3) := by decide +kernel
theorem dX6_duty_32 : decode cX6_duty 32 = .ok (.iconst 1, 1) := by decide +kernel
theorem dX6_duty_33 : decode cX6_duty 33 = .ok (.iaload, 1) := by decide +kernel
theorem dX6_duty_34 : decode cX6_duty 34 = .ok (.i2f, 1) := by decide +kernel
theorem dX6_duty_35 : decode cX6_duty 35 = .ok (.fdiv, 1) := by decide +kernel
theorem dX6_duty_36 : decode cX6_duty 36 = .ok (.freturn, 1) := by decide +kernel
set_option maxRecDepth 20000 in
theorem ggX6_broken_X6_brokenOf : GoodIn wsX6_broken wsX6_brokenOf := goodIn_r _ [6, 1, 7, 8, 9, 10, 11, 12, 13, 14, 15, 16, 17, 18, 19] (by decide +kernel) (by decide +kernel)
set_option maxRecDepth 20000 in
theorem gX6_broken_X6_brokenOf : GoodIn wsX6_broken (wsV RX6 98 RX6 yX6_brokenOf wsX6_brokenOf) := goodIn_app (goodIn_of _ (by decide +kernel)) ggX6_broken_X6_brokenOf
theorem dX6_broken_0 : decode cX6_broken 0 = .ok (.iconst 0, 1) := by decide +kernel
theorem dX6_broken_1 : decode cX6_broken 1 = .ok (.istore_n 1, 1) := by decide +kernel
theorem dX6_broken_2 : decode cX6_broken 2 = .ok (.iconst 0, 1) := by decide +kernel
theorem dX6_broken_3 : decode cX6_broken 3 = .ok (.istore_n 2, 1) := by decide +kernel
theorem dX6_broken_4 : decode cX6_broken 4 = .ok (.iload_n 2, 1) := by decide +kernel
theorem dX6_broken_5 : decode cX6_broken 5 = .ok (.aload_n 0, 1) := by decide +kernel
theorem dX6_broken_6 : decode cX6_broken 6 = .ok (.getfield 7, 3) := by decide +kernel
theorem dX6_broken_9 : decode cX6_broken 9 = .ok (.iconst 0, 1) := by decide +kernel
theorem dX6_broken_10 : decode cX6_broken 10 = .ok (.iaload, 1) := by decide +kernel
theorem dX6_broken_11 : decode cX6_broken 11 = .ok (.if_icmp .ge 17, 3) := by decide +kernel
theorem dX6_broken_14 : decode cX6_broken 14 = .ok (.iload_n 1, 1) := by decide +kernel
theorem dX6_broken_15 : decode cX6_broken 15 = .ok (.aload_n 0, 1) := by decide +kernel
theorem dX6_broken_16 : decode cX6_broken 16 = .ok (.iload_n 2, 1) := by decide +kernel
theorem dX6_broken_17 : decode cX6_broken 17 = .ok (.invokevirtual 98, 3) := by decide +kernel
theorem dX6_broken_20 : decode cX6_broken 20 = .ok (.iadd, 1) := by decide +kernel
theorem dX6_broken_21 : decode cX6_broken 21 = .ok (.istore_n 1, 1) := by decide +kernel
theorem dX6_broken_22 : decode cX6_broken 22 = .ok (.iinc 2 1, 3) := by decide +kernel
theorem dX6_broken_25 : decode cX6_broken 25 = .ok (.goto (-21), 3) := by decide +kernel
theorem dX6_broken_28 : decode cX6_broken 28 = .ok (.iload_n 1, 1) := by decide +kernel
theorem dX6_broken_29 : decode cX6_broken 29 = .ok (.ireturn, 1) := by decide +kernel
set_option maxRecDepth 20000 in
theorem ggX6_count_X6_frameLength : GoodIn wsX6_count wsX6_frameLength := goodIn_r _ [8, 1, 9, 10, 11, 7, 12, 13, 14, 15, 16, 29, 30, 31, 32, 33, 34, 35, 36, 37, 38, 39, 40, 41] (by decide +kernel) (by decide +kernel)
set_option maxRecDepth 20000 in
theorem gX6_count_X6_frameLength : GoodIn wsX6_count (wsV RX6 87 RX6 yX6_frameLength wsX6_frameLength) := goodIn_app (goodIn_of _ (by decide +kernel)) ggX6_count_X6_frameLength
set_option maxRecDepth 20000 in
theorem ggX6_count_X6_slotNow : GoodIn wsX6_count wsX6_slotNow := goodIn_r _ [20, 1, 9, 10, 11, 7, 12, 13, 14, 15, 16, 29, 30, 31, 32, 33, 34, 35, 36, 37, 38, 39, 40, 41] (by decide +kernel) (by decide +kernel)
set_option maxRecDepth 20000 in
theorem gX6_count_X6_slotNow : GoodIn wsX6_count (wsV RX6 104 RX6 yX6_slotNow wsX6_slotNow) := goodIn_app (goodIn_of _ (by decide +kernel)) ggX6_count_X6_slotNow
set_option maxRecDepth 20000 in
theorem ggX6_count_X6_broken : GoodIn wsX6_count wsX6_broken := goodIn_r _ [24, 1, 25, 26, 27, 7, 28, 29, 30, 31, 32, 33, 34, 35, 36, 37, 38, 39, 40, 41] (by decide +kernel) (by decide +kernel)
set_option maxRecDepth 20000 in
theorem gX6_count_X6_broken : GoodIn wsX6_count (wsV RX6 149 RX6 yX6_broken wsX6_broken) := goodIn_app (goodIn_of _ (by decide +kernel)) ggX6_count_X6_broken
theorem dX6_count_0 : decode cX6_count 0 = .ok (.iload_n 1, 1) := by decide +kernel
theorem dX6_count_1 : decode cX6_count 1 = .ok (.tableswitch 151 0 13 #[71, 78, 85, 90, 97, 104, 109, 116, 123, 128, 128, 128, 141, 146], 71) := by decide +kernel
theorem dX6_count_72 : decode cX6_count 72 = .ok (.aload_n 0, 1) := by decide +kernel
theorem dX6_count_73 : decode cX6_count 73 = .ok (.getfield 7, 3) := by decide +kernel
theorem dX6_count_76 : decode cX6_count 76 = .ok (.iconst 1, 1) := by decide +kernel
theorem dX6_count_77 : decode cX6_count 77 = .ok (.iaload, 1) := by decide +kernel
theorem dX6_count_78 : decode cX6_count 78 = .ok (.ireturn, 1) := by decide +kernel
theorem dX6_count_79 : decode cX6_count 79 = .ok (.aload_n 0, 1) := by decide +kernel
theorem dX6_count_80 : decode cX6_count 80 = .ok (.getfield 7, 3) := by decide +kernel
theorem dX6_count_83 : decode cX6_count 83 = .ok (.iconst 0, 1) := by decide +kernel
theorem dX6_count_84 : decode cX6_count 84 = .ok (.iaload, 1) := by decide +kernel
theorem dX6_count_85 : decode cX6_count 85 = .ok (.ireturn, 1) := by decide +kernel
theorem dX6_count_86 : decode cX6_count 86 = .ok (.aload_n 0, 1) := by decide +kernel
theorem dX6_count_87 : decode cX6_count 87 = .ok (.invokevirtual 87, 3) := by decide +kernel
theorem dX6_count_90 : decode cX6_count 90 = .ok (.ireturn, 1) := by decide +kernel
theorem dX6_count_91 : decode cX6_count 91 = .ok (.aload_n 0, 1) := by decide +kernel
theorem dX6_count_92 : decode cX6_count 92 = .ok (.getfield 7, 3) := by decide +kernel
theorem dX6_count_95 : decode cX6_count 95 = .ok (.iconst 2, 1) := by decide +kernel
theorem dX6_count_96 : decode cX6_count 96 = .ok (.iaload, 1) := by decide +kernel
theorem dX6_count_97 : decode cX6_count 97 = .ok (.ireturn, 1) := by decide +kernel
theorem dX6_count_98 : decode cX6_count 98 = .ok (.aload_n 0, 1) := by decide +kernel
theorem dX6_count_99 : decode cX6_count 99 = .ok (.getfield 7, 3) := by decide +kernel
theorem dX6_count_102 : decode cX6_count 102 = .ok (.iconst 3, 1) := by decide +kernel
theorem dX6_count_103 : decode cX6_count 103 = .ok (.iaload, 1) := by decide +kernel
theorem dX6_count_104 : decode cX6_count 104 = .ok (.ireturn, 1) := by decide +kernel
theorem dX6_count_105 : decode cX6_count 105 = .ok (.aload_n 0, 1) := by decide +kernel
theorem dX6_count_106 : decode cX6_count 106 = .ok (.invokevirtual 104, 3) := by decide +kernel
theorem dX6_count_109 : decode cX6_count 109 = .ok (.ireturn, 1) := by decide +kernel
theorem dX6_count_110 : decode cX6_count 110 = .ok (.aload_n 0, 1) := by decide +kernel
theorem dX6_count_111 : decode cX6_count 111 = .ok (.getfield 7, 3) := by decide +kernel
theorem dX6_count_114 : decode cX6_count 114 = .ok (.iconst 4, 1) := by decide +kernel
theorem dX6_count_115 : decode cX6_count 115 = .ok (.iaload, 1) := by decide +kernel
theorem dX6_count_116 : decode cX6_count 116 = .ok (.ireturn, 1) := by decide +kernel
theorem dX6_count_117 : decode cX6_count 117 = .ok (.aload_n 0, 1) := by decide +kernel
theorem dX6_count_118 : decode cX6_count 118 = .ok (.getfield 7, 3) := by decide +kernel
theorem dX6_count_121 : decode cX6_count 121 = .ok (.iconst 5, 1) := by decide +kernel
theorem dX6_count_122 : decode cX6_count 122 = .ok (.iaload, 1) := by decide +kernel
theorem dX6_count_123 : decode cX6_count 123 = .ok (.ireturn, 1) := by decide +kernel
theorem dX6_count_124 : decode cX6_count 124 = .ok (.aload_n 0, 1) := by decide +kernel
theorem dX6_count_125 : decode cX6_count 125 = .ok (.invokevirtual 149, 3) := by decide +kernel
theorem dX6_count_128 : decode cX6_count 128 = .ok (.ireturn, 1) := by decide +kernel
theorem dX6_count_129 : decode cX6_count 129 = .ok (.aload_n 0, 1) := by decide +kernel
theorem dX6_count_130 : decode cX6_count 130 = .ok (.getfield 7, 3) := by decide +kernel
theorem dX6_count_133 : decode cX6_count 133 = .ok (.bipush 6, 2) := by decide +kernel
theorem dX6_count_135 : decode cX6_count 135 = .ok (.iload_n 1, 1) := by decide +kernel
theorem dX6_count_136 : decode cX6_count 136 = .ok (.iadd, 1) := by decide +kernel
theorem dX6_count_137 : decode cX6_count 137 = .ok (.bipush 9, 2) := by decide +kernel
theorem dX6_count_139 : decode cX6_count 139 = .ok (.isub, 1) := by decide +kernel
theorem dX6_count_140 : decode cX6_count 140 = .ok (.iaload, 1) := by decide +kernel
theorem dX6_count_141 : decode cX6_count 141 = .ok (.ireturn, 1) := by decide +kernel
theorem dX6_count_142 : decode cX6_count 142 = .ok (.aload_n 0, 1) := by decide +kernel
theorem dX6_count_143 : decode cX6_count 143 = .ok (.getfield 51, 3) := by decide +kernel
theorem dX6_count_146 : decode cX6_count 146 = .ok (.ireturn, 1) := by decide +kernel
theorem dX6_count_147 : decode cX6_count 147 = .ok (.aload_n 0, 1) := by decide +kernel
theorem dX6_count_148 : decode cX6_count 148 = .ok (.getfield 129, 3) := by decide +kernel
theorem dX6_count_151 : decode cX6_count 151 = .ok (.ireturn, 1) := by decide +kernel
theorem dX6_count_152 : decode cX6_count 152 = .ok (.bipush (-2), 2) := by decide +kernel
theorem dX6_count_154 : decode cX6_count 154 = .ok (.ireturn, 1) := by decide +kernel
set_option maxRecDepth 20000 in
theorem ggX6_group_X6_in : GoodIn wsX6_group wsX6_in := goodIn_r _ [5] (by decide +kernel) (by decide +kernel)
set_option maxRecDepth 20000 in
theorem gX6_group_X6_in : GoodIn wsX6_group (va_wsS RX6 55 yX6_in wsX6_in) := goodIn_app (goodIn_of _ (by decide +kernel)) ggX6_group_X6_in
set_option maxRecDepth 20000 in
theorem ggX6_group_X6_isOn : GoodIn wsX6_group wsX6_isOn := goodIn_r _ [9, 1, 18, 19, 20, 21, 22, 23, 24, 25, 26, 27, 28, 29, 30] (by decide +kernel) (by decide +kernel)
set_option maxRecDepth 20000 in
theorem gX6_group_X6_isOn : GoodIn wsX6_group (wsV RX6 101 RX6 yX6_isOn wsX6_isOn) := goodIn_app (goodIn_of _ (by decide +kernel)) ggX6_group_X6_isOn
set_option maxRecDepth 20000 in
theorem ggX6_group_X6_digitsIn : GoodIn wsX6_group wsX6_digitsIn := goodIn_r _ [13, 1, 14, 15, 16, 4, 17, 18, 19, 20, 21, 22, 23, 24, 25, 26, 27, 28, 29, 30] (by decide +kernel) (by decide +kernel)
set_option maxRecDepth 20000 in
theorem gX6_group_X6_digitsIn : GoodIn wsX6_group (wsV RX6 94 RX6 yX6_digitsIn wsX6_digitsIn) := goodIn_app (goodIn_of _ (by decide +kernel)) ggX6_group_X6_digitsIn
theorem dX6_group_0 : decode cX6_group 0 = .ok (.iload_n 1, 1) := by decide +kernel
theorem dX6_group_1 : decode cX6_group 1 = .ok (.iconst 0, 1) := by decide +kernel
theorem dX6_group_2 : decode cX6_group 2 = .ok (.iconst 3, 1) := by decide +kernel
theorem dX6_group_3 : decode cX6_group 3 = .ok (.invokestatic 55, 3) := by decide +kernel
theorem dX6_group_6 : decode cX6_group 6 = .ok (.ifCond .ne 5, 3) := by decide +kernel
theorem dX6_group_9 : decode cX6_group 9 = .ok (.iconst (-1), 1) := by decide +kernel
theorem dX6_group_10 : decode cX6_group 10 = .ok (.ireturn, 1) := by decide +kernel
theorem dX6_group_11 : decode cX6_group 11 = .ok (.iload_n 2, 1) := by decide +kernel
theorem dX6_group_12 : decode cX6_group 12 = .ok (.tableswitch 92 0 3 #[32, 52, 72, 86], 32) := by decide +kernel
theorem dX6_group_44 : decode cX6_group 44 = .ok (.iload_n 1, 1) := by decide +kernel
theorem dX6_group_45 : decode cX6_group 45 = .ok (.ifCond .ne 7, 3) := by decide +kernel
theorem dX6_group_48 : decode cX6_group 48 = .ok (.iconst 0, 1) := by decide +kernel
theorem dX6_group_49 : decode cX6_group 49 = .ok (.goto 14, 3) := by decide +kernel
theorem dX6_group_52 : decode cX6_group 52 = .ok (.aload_n 0, 1) := by decide +kernel
theorem dX6_group_53 : decode cX6_group 53 = .ok (.getfield 7, 3) := by decide +kernel
theorem dX6_group_56 : decode cX6_group 56 = .ok (.bipush 9, 2) := by decide +kernel
theorem dX6_group_58 : decode cX6_group 58 = .ok (.iload_n 1, 1) := by decide +kernel
theorem dX6_group_59 : decode cX6_group 59 = .ok (.iadd, 1) := by decide +kernel
theorem dX6_group_60 : decode cX6_group 60 = .ok (.iconst 1, 1) := by decide +kernel
theorem dX6_group_61 : decode cX6_group 61 = .ok (.isub, 1) := by decide +kernel
theorem dX6_group_62 : decode cX6_group 62 = .ok (.iaload, 1) := by decide +kernel
theorem dX6_group_63 : decode cX6_group 63 = .ok (.ireturn, 1) := by decide +kernel
theorem dX6_group_64 : decode cX6_group 64 = .ok (.iload_n 1, 1) := by decide +kernel
theorem dX6_group_65 : decode cX6_group 65 = .ok (.ifCond .ne 7, 3) := by decide +kernel
theorem dX6_group_68 : decode cX6_group 68 = .ok (.iconst 0, 1) := by decide +kernel
theorem dX6_group_69 : decode cX6_group 69 = .ok (.goto 14, 3) := by decide +kernel
theorem dX6_group_72 : decode cX6_group 72 = .ok (.aload_n 0, 1) := by decide +kernel
theorem dX6_group_73 : decode cX6_group 73 = .ok (.getfield 7, 3) := by decide +kernel
theorem dX6_group_76 : decode cX6_group 76 = .ok (.bipush 12, 2) := by decide +kernel
theorem dX6_group_78 : decode cX6_group 78 = .ok (.iload_n 1, 1) := by decide +kernel
theorem dX6_group_79 : decode cX6_group 79 = .ok (.iadd, 1) := by decide +kernel
theorem dX6_group_80 : decode cX6_group 80 = .ok (.iconst 1, 1) := by decide +kernel
theorem dX6_group_81 : decode cX6_group 81 = .ok (.isub, 1) := by decide +kernel
theorem dX6_group_82 : decode cX6_group 82 = .ok (.iaload, 1) := by decide +kernel
theorem dX6_group_83 : decode cX6_group 83 = .ok (.ireturn, 1) := by decide +kernel
theorem dX6_group_84 : decode cX6_group 84 = .ok (.aload_n 0, 1) := by decide +kernel
theorem dX6_group_85 : decode cX6_group 85 = .ok (.iload_n 1, 1) := by decide +kernel
theorem dX6_group_86 : decode cX6_group 86 = .ok (.invokevirtual 101, 3) := by decide +kernel
theorem dX6_group_89 : decode cX6_group 89 = .ok (.ifCond .eq 7, 3) := by decide +kernel
theorem dX6_group_92 : decode cX6_group 92 = .ok (.iconst 1, 1) := by decide +kernel
theorem dX6_group_93 : decode cX6_group 93 = .ok (.goto 4, 3) := by decide +kernel
theorem dX6_group_96 : decode cX6_group 96 = .ok (.iconst 0, 1) := by decide +kernel
theorem dX6_group_97 : decode cX6_group 97 = .ok (.ireturn, 1) := by decide +kernel
theorem dX6_group_98 : decode cX6_group 98 = .ok (.aload_n 0, 1) := by decide +kernel
theorem dX6_group_99 : decode cX6_group 99 = .ok (.iload_n 1, 1) := by decide +kernel
theorem dX6_group_100 : decode cX6_group 100 = .ok (.invokevirtual 94, 3) := by decide +kernel
theorem dX6_group_103 : decode cX6_group 103 = .ok (.ireturn, 1) := by decide +kernel
theorem dX6_group_104 : decode cX6_group 104 = .ok (.bipush (-2), 2) := by decide +kernel
theorem dX6_group_106 : decode cX6_group 106 = .ok (.ireturn, 1) := by decide +kernel
theorem dJ6_bitCount_0f7a4_0 : decode cJ6_bitCount_0f7a4 0 = .ok (.iload_n 0, 1) := by decide +kernel
theorem dJ6_bitCount_0f7a4_1 : decode cJ6_bitCount_0f7a4 1 = .ok (.iload_n 0, 1) := by decide +kernel
theorem dJ6_bitCount_0f7a4_2 : decode cJ6_bitCount_0f7a4 2 = .ok (.iconst 1, 1) := by decide +kernel
theorem dJ6_bitCount_0f7a4_3 : decode cJ6_bitCount_0f7a4 3 = .ok (.iushr, 1) := by decide +kernel
theorem dJ6_bitCount_0f7a4_4 : decode cJ6_bitCount_0f7a4 4 = .ok (.ldc_w 265, 3) := by decide +kernel
theorem dJ6_bitCount_0f7a4_7 : decode cJ6_bitCount_0f7a4 7 = .ok (.iand, 1) := by decide +kernel
theorem dJ6_bitCount_0f7a4_8 : decode cJ6_bitCount_0f7a4 8 = .ok (.isub, 1) := by decide +kernel
theorem dJ6_bitCount_0f7a4_9 : decode cJ6_bitCount_0f7a4 9 = .ok (.istore_n 0, 1) := by decide +kernel
theorem dJ6_bitCount_0f7a4_10 : decode cJ6_bitCount_0f7a4 10 = .ok (.iload_n 0, 1) := by decide +kernel
theorem dJ6_bitCount_0f7a4_11 : decode cJ6_bitCount_0f7a4 11 = .ok (.ldc_w 266, 3) := by decide +kernel
theorem dJ6_bitCount_0f7a4_14 : decode cJ6_bitCount_0f7a4 14 = .ok (.iand, 1) := by decide +kernel
theorem dJ6_bitCount_0f7a4_15 : decode cJ6_bitCount_0f7a4 15 = .ok (.iload_n 0, 1) := by decide +kernel
theorem dJ6_bitCount_0f7a4_16 : decode cJ6_bitCount_0f7a4 16 = .ok (.iconst 2, 1) := by decide +kernel
theorem dJ6_bitCount_0f7a4_17 : decode cJ6_bitCount_0f7a4 17 = .ok (.iushr, 1) := by decide +kernel
theorem dJ6_bitCount_0f7a4_18 : decode cJ6_bitCount_0f7a4 18 = .ok (.ldc_w 266, 3) := by decide +kernel
theorem dJ6_bitCount_0f7a4_21 : decode cJ6_bitCount_0f7a4 21 = .ok (.iand, 1) := by decide +kernel
theorem dJ6_bitCount_0f7a4_22 : decode cJ6_bitCount_0f7a4 22 = .ok (.iadd, 1) := by decide +kernel
theorem dJ6_bitCount_0f7a4_23 : decode cJ6_bitCount_0f7a4 23 = .ok (.istore_n 0, 1) := by decide +kernel
theorem dJ6_bitCount_0f7a4_24 : decode cJ6_bitCount_0f7a4 24 = .ok (.iload_n 0, 1) := by decide +kernel
theorem dJ6_bitCount_0f7a4_25 : decode cJ6_bitCount_0f7a4 25 = .ok (.iload_n 0, 1) := by decide +kernel
theorem dJ6_bitCount_0f7a4_26 : decode cJ6_bitCount_0f7a4 26 = .ok (.iconst 4, 1) := by decide +kernel
theorem dJ6_bitCount_0f7a4_27 : decode cJ6_bitCount_0f7a4 27 = .ok (.iushr, 1) := by decide +kernel
theorem dJ6_bitCount_0f7a4_28 : decode cJ6_bitCount_0f7a4 28 = .ok (.iadd, 1) := by decide +kernel
theorem dJ6_bitCount_0f7a4_29 : decode cJ6_bitCount_0f7a4 29 = .ok (.ldc_w 267, 3) := by decide +kernel
theorem dJ6_bitCount_0f7a4_32 : decode cJ6_bitCount_0f7a4 32 = .ok (.iand, 1) := by decide +kernel
theorem dJ6_bitCount_0f7a4_33 : decode cJ6_bitCount_0f7a4 33 = .ok (.istore_n 0, 1) := by decide +kernel
theorem dJ6_bitCount_0f7a4_34 : decode cJ6_bitCount_0f7a4 34 = .ok (.iload_n 0, 1) := by decide +kernel
theorem dJ6_bitCount_0f7a4_35 : decode cJ6_bitCount_0f7a4 35 = .ok (.iload_n 0, 1) := by decide +kernel
theorem dJ6_bitCount_0f7a4_36 : decode cJ6_bitCount_0f7a4 36 = .ok (.bipush 8, 2) := by decide +kernel
theorem dJ6_bitCount_0f7a4_38 : decode cJ6_bitCount_0f7a4 38 = .ok (.iushr, 1) := by decide +kernel
theorem dJ6_bitCount_0f7a4_39 : decode cJ6_bitCount_0f7a4 39 = .ok (.iadd, 1) := by decide +kernel
theorem dJ6_bitCount_0f7a4_40 : decode cJ6_bitCount_0f7a4 40 = .ok (.istore_n 0, 1) := by decide +kernel
theorem dJ6_bitCount_0f7a4_41 : decode cJ6_bitCount_0f7a4 41 = .ok (.iload_n 0, 1) := by decide +kernel
theorem dJ6_bitCount_0f7a4_42 : decode cJ6_bitCount_0f7a4 42 = .ok (.iload_n 0, 1) := by decide +kernel
theorem dJ6_bitCount_0f7a4_43 : decode cJ6_bitCount_0f7a4 43 = .ok (.bipush 16, 2) := by decide +kernel
theorem dJ6_bitCount_0f7a4_45 : decode cJ6_bitCount_0f7a4 45 = .ok (.iushr, 1) := by decide +kernel
theorem dJ6_bitCount_0f7a4_46 : decode cJ6_bitCount_0f7a4 46 = .ok (.iadd, 1) := by decide +kernel
theorem dJ6_bitCount_0f7a4_47 : decode cJ6_bitCount_0f7a4 47 = .ok (.istore_n 0, 1) := by decide +kernel
theorem dJ6_bitCount_0f7a4_48 : decode cJ6_bitCount_0f7a4 48 = .ok (.iload_n 0, 1) := by decide +kernel
theorem dJ6_bitCount_0f7a4_49 : decode cJ6_bitCount_0f7a4 49 = .ok (.bipush 63, 2) := by decide +kernel
theorem dJ6_bitCount_0f7a4_51 : decode cJ6_bitCount_0f7a4 51 = .ok (.iand, 1) := by decide +kernel
theorem dJ6_bitCount_0f7a4_52 : decode cJ6_bitCount_0f7a4 52 = .ok (.ireturn, 1) := by decide +kernel
theorem dJ9_max_7cf53_0 : decode cJ9_max_7cf53 0 = .ok (.iload_n 0, 1) := by decide +kernel
theorem dJ9_max_7cf53_1 : decode cJ9_max_7cf53 1 = .ok (.iload_n 1, 1) := by decide +kernel
theorem dJ9_max_7cf53_2 : decode cJ9_max_7cf53 2 = .ok (.if_icmp .lt 7, 3) := by decide +kernel
theorem dJ9_max_7cf53_5 : decode cJ9_max_7cf53 5 = .ok (.iload_n 0, 1) := by decide +kernel
theorem dJ9_max_7cf53_6 : decode cJ9_max_7cf53 6 = .ok (.goto 4, 3) := by decide +kernel
theorem dJ9_max_7cf53_9 : decode cJ9_max_7cf53 9 = .ok (.iload_n 1, 1) := by decide +kernel
theorem dJ9_max_7cf53_10 : decode cJ9_max_7cf53 10 = .ok (.ireturn, 1) := by decide +kernel
theorem dJ9_min_7cf53_0 : decode cJ9_min_7cf53 0 = .ok (.iload_n 0, 1) := by decide +kernel
theorem dJ9_min_7cf53_1 : decode cJ9_min_7cf53 1 = .ok (.iload_n 1, 1) := by decide +kernel
theorem dJ9_min_7cf53_2 : decode cJ9_min_7cf53 2 = .ok (.if_icmp .gt 7, 3) := by decide +kernel
theorem dJ9_min_7cf53_5 : decode cJ9_min_7cf53 5 = .ok (.iload_n 0, 1) := by decide +kernel
theorem dJ9_min_7cf53_6 : decode cJ9_min_7cf53 6 = .ok (.goto 4, 3) := by decide +kernel
theorem dJ9_min_7cf53_9 : decode cJ9_min_7cf53 9 = .ok (.iload_n 1, 1) := by decide +kernel
theorem dJ9_min_7cf53_10 : decode cJ9_min_7cf53 10 = .ok (.ireturn, 1) := by decide +kernel
set_option maxRecDepth 20000 in
theorem ggL_law_X5_init : GoodIn wsL_law wsX5_init := goodIn_r _ [8, 9, 10, 11, 12, 13, 14, 15, 16, 17, 18, 19, 20, 21, 22, 23, 24, 25, 26, 27, 28, 29, 30, 31, 32, 33, 34, 35, 36, 37, 38, 39, 40, 41, 42, 43, 44, 45, 46, 47, 48, 49, 50, 51, 52, 53, 54, 55, 56, 57, 58, 59, 60, 61, 62, 63, 64, 65, 66, 67, 68, 69, 70, 71, 72, 73, 74, 75, 76, 77, 78, 79, 80, 81, 82, 83, 84, 85, 86, 87, 669, 670, 671, 672, 673, 674, 675, 676, 677, 678, 679, 680, 681, 651, 652, 653, 654, 655, 682, 683, 684, 685, 686, 687, 688, 689, 690, 691, 692, 693, 694, 695, 696, 697, 698, 699] (by decide +kernel) (by decide +kernel)
set_option maxRecDepth 20000 in
theorem gL_law_X5_init : GoodIn wsL_law (wsX5_init) := ggL_law_X5_init
set_option maxRecDepth 20000 in
theorem ggL_law_X6_init : GoodIn wsL_law wsX6_init := goodIn_r _ [90, 91, 10, 11, 36, 92, 93, 94, 95, 96, 97, 98, 99, 100, 101, 102, 79, 103, 104, 105, 106, 107, 108, 5, 109, 110, 111, 112, 113, 114, 115, 116, 117, 656, 657, 658, 659, 660, 661, 662, 663, 664, 665, 666, 667, 668] (by decide +kernel) (by decide +kernel)
set_option maxRecDepth 20000 in
theorem gL_law_X6_init : GoodIn wsL_law (wsX6_init) := ggL_law_X6_init
set_option maxRecDepth 20000 in
theorem ggL_law_X5_setDigits : GoodIn wsL_law wsX5_setDigits := goodIn_r _ [121, 20, 15, 122, 123, 124, 2, 125, 126, 127, 128, 19, 129, 74, 130, 131, 132, 133, 134, 135, 136, 137, 138, 14, 139, 34, 35, 37, 140, 141, 142, 143, 38, 45, 144, 145, 146, 147, 148, 149, 150, 151, 152, 153, 154, 47, 155, 58, 59, 60, 61, 62, 63, 68, 52, 156, 53, 157, 158, 159, 160, 161, 55, 56, 57, 64, 65, 66, 67, 162, 163, 164, 165, 651, 652, 653, 654, 655, 669, 670, 671, 672, 673, 674, 675, 676, 677, 678, 679, 680, 681, 682, 683, 684, 691, 692, 693, 694, 695, 696, 697, 698, 699] (by decide +kernel) (by decide +kernel)
set_option maxRecDepth 20000 in
theorem gL_law_X5_setDigits : GoodIn wsL_law (wsV RL 13 RX5 yX5_setDigits wsX5_setDigits) := goodIn_app (goodIn_of _ (by decide +kernel)) ggL_law_X5_setDigits
set_option maxRecDepth 20000 in
theorem ggL_law_X6_setDigits : GoodIn wsL_law wsX6_setDigits := goodIn_r _ [169, 92, 170, 171, 5, 172, 173, 174, 175, 176, 95, 96, 94, 106, 107, 108, 109, 110, 111, 112, 113, 114, 115, 116, 117, 177, 178, 179, 180, 181, 182, 183, 184, 185, 97, 98, 656, 657, 658, 659, 660, 661, 662, 663, 664, 665, 666, 667, 668] (by decide +kernel) (by decide +kernel)
set_option maxRecDepth 20000 in
theorem gL_law_X6_setDigits : GoodIn wsL_law (wsV RL 17 RX6 yX6_setDigits wsX6_setDigits) := goodIn_app (goodIn_of _ (by decide +kernel)) ggL_law_X6_setDigits
set_option maxRecDepth 20000 in
theorem ggL_law_X5_setWidth : GoodIn wsL_law wsX5_setWidth := goodIn_r _ [189, 15, 20, 190, 191, 192, 14, 193, 35, 34, 124, 2, 125, 123, 126, 127, 128, 19, 129, 74, 130, 131, 132, 133, 134, 135, 136, 137, 138, 139, 37, 140, 141, 142, 143, 38, 45, 144, 145, 146, 147, 148, 149, 150, 151, 152, 153, 154, 47, 155, 58, 59, 60, 61, 62, 63, 68, 52, 156, 53, 194, 195, 196, 197, 198, 162, 163, 164, 165, 199, 200, 201, 202, 203, 204, 205, 206, 651, 652, 653, 654, 655, 669, 670, 671, 672, 673, 674, 675, 676, 677, 678, 679, 680, 681, 682, 683, 684, 691, 692, 693, 694, 695, 696, 697, 698, 699] (by decide +kernel) (by decide +kernel)
set_option maxRecDepth 20000 in
theorem gL_law_X5_setWidth : GoodIn wsL_law (wsV RL 18 RX5 yX5_setWidth wsX5_setWidth) := goodIn_app (goodIn_of _ (by decide +kernel)) ggL_law_X5_setWidth
set_option maxRecDepth 20000 in
theorem ggL_law_X6_setWidth : GoodIn wsL_law wsX6_setWidth := goodIn_r _ [210, 211, 212, 213, 5, 214, 92, 170, 171, 172, 173, 174, 175, 176, 95, 96, 94, 215, 216, 217, 218, 110, 111, 112, 113, 177, 178, 179, 180, 219, 220, 221, 222, 223, 224, 225, 226, 181, 182, 183, 184, 185, 97, 98, 656, 657, 658, 659, 660, 661, 662, 663, 664, 665, 666, 667, 668] (by decide +kernel) (by decide +kernel)
set_option maxRecDepth 20000 in
theorem gL_law_X6_setWidth : GoodIn wsL_law (wsV RL 22 RX6 yX6_setWidth wsX6_setWidth) := goodIn_app (goodIn_of _ (by decide +kernel)) ggL_law_X6_setWidth
set_option maxRecDepth 20000 in
theorem ggL_law_X5_setGuard : GoodIn wsL_law wsX5_setGuard := goodIn_r _ [230, 15, 20, 231, 190, 191, 192, 14, 193, 35, 34, 124, 2, 125, 123, 126, 127, 128, 19, 129, 74, 130, 131, 132, 133, 134, 135, 136, 137, 138, 139, 37, 140, 141, 142, 143, 38, 45, 144, 145, 146, 147, 148, 149, 150, 151, 152, 153, 154, 47, 155, 58, 59, 60, 61, 62, 63, 68, 52, 156, 53, 232, 233, 234, 235, 236, 237, 238, 239, 651, 652, 653, 654, 655, 691, 692, 693, 694, 695, 696, 697, 698, 699, 669, 670, 671, 672, 673, 674, 675, 676, 677, 678, 679, 680, 681, 682, 683, 684] (by decide +kernel) (by decide +kernel)
set_option maxRecDepth 20000 in
theorem gL_law_X5_setGuard : GoodIn wsL_law (wsV RL 23 RX5 yX5_setGuard wsX5_setGuard) := goodIn_app (goodIn_of _ (by decide +kernel)) ggL_law_X5_setGuard
set_option maxRecDepth 20000 in
theorem ggL_law_X6_setGuard : GoodIn wsL_law wsX6_setGuard := goodIn_r _ [243, 211, 212, 213, 5, 214, 92, 170, 171, 172, 173, 174, 175, 176, 95, 96, 94, 110, 111, 112, 113, 244, 245, 246, 247, 215, 216, 217, 218, 181, 182, 183, 184, 185, 97, 98, 656, 657, 658, 659, 660, 661, 662, 663, 664, 665, 666, 667, 668] (by decide +kernel) (by decide +kernel)
set_option maxRecDepth 20000 in
theorem gL_law_X6_setGuard : GoodIn wsL_law (wsV RL 26 RX6 yX6_setGuard wsX6_setGuard) := goodIn_app (goodIn_of _ (by decide +kernel)) ggL_law_X6_setGuard
set_option maxRecDepth 20000 in
theorem ggL_law_X5_setBrightness : GoodIn wsL_law wsX5_setBrightness := goodIn_r _ [251, 15, 20, 252, 190, 191, 192, 14, 193, 35, 34, 124, 2, 125, 123, 126, 127, 128, 19, 129, 74, 130, 131, 132, 133, 134, 135, 136, 137, 138, 139, 37, 140, 141, 142, 143, 38, 45, 144, 145, 146, 147, 148, 149, 150, 151, 152, 153, 154, 47, 155, 58, 59, 60, 61, 62, 63, 68, 52, 156, 53, 232, 233, 234, 235, 236, 237, 238, 239, 651, 652, 653, 654, 655, 691, 692, 693, 694, 695, 696, 697, 698, 699, 669, 670, 671, 672, 673, 674, 675, 676, 677, 678, 679, 680, 681, 682, 683, 684] (by decide +kernel) (by decide +kernel)
set_option maxRecDepth 20000 in
theorem gL_law_X5_setBrightness : GoodIn wsL_law (wsV RL 27 RX5 yX5_setBrightness wsX5_setBrightness) := goodIn_app (goodIn_of _ (by decide +kernel)) ggL_law_X5_setBrightness
set_option maxRecDepth 20000 in
theorem ggL_law_X6_setBrightness : GoodIn wsL_law wsX6_setBrightness := goodIn_r _ [256, 211, 212, 213, 5, 214, 92, 170, 171, 172, 173, 174, 175, 176, 95, 96, 94, 110, 111, 112, 113, 244, 245, 246, 247, 215, 216, 217, 218, 181, 182, 183, 184, 185, 97, 98, 656, 657, 658, 659, 660, 661, 662, 663, 664, 665, 666, 667, 668] (by decide +kernel) (by decide +kernel)
set_option maxRecDepth 20000 in
theorem gL_law_X6_setBrightness : GoodIn wsL_law (wsV RL 30 RX6 yX6_setBrightness wsX6_setBrightness) := goodIn_app (goodIn_of _ (by decide +kernel)) ggL_law_X6_setBrightness
set_option maxRecDepth 20000 in
theorem ggL_law_X5_setPattern : GoodIn wsL_law wsX5_setPattern := goodIn_r _ [260, 15, 20, 261, 190, 191, 192, 14, 193, 35, 34, 124, 2, 125, 123, 126, 127, 128, 19, 129, 74, 130, 131, 132, 133, 134, 135, 136, 137, 138, 139, 37, 140, 141, 142, 143, 38, 45, 144, 145, 146, 147, 148, 149, 150, 151, 152, 153, 154, 47, 155, 58, 59, 60, 61, 62, 63, 68, 52, 156, 53, 651, 652, 653, 654, 655, 691, 692, 693, 694, 695, 696, 697, 698, 699, 669, 670, 671, 672, 673, 674, 675, 676, 677, 678, 679, 680, 681, 682, 683, 684] (by decide +kernel) (by decide +kernel)
set_option maxRecDepth 20000 in
theorem gL_law_X5_setPattern : GoodIn wsL_law (wsV RL 31 RX5 yX5_setPattern wsX5_setPattern) := goodIn_app (goodIn_of _ (by decide +kernel)) ggL_law_X5_setPattern
set_option maxRecDepth 20000 in
theorem ggL_law_X6_setPattern : GoodIn wsL_law wsX6_setPattern := goodIn_r _ [265, 211, 212, 213, 5, 214, 92, 170, 171, 172, 173, 174, 175, 176, 95, 96, 94, 215, 216, 217, 218, 110, 111, 112, 113, 181, 182, 183, 184, 185, 97, 98, 656, 657, 658, 659, 660, 661, 662, 663, 664, 665, 666, 667, 668] (by decide +kernel) (by decide +kernel)
set_option maxRecDepth 20000 in
theorem gL_law_X6_setPattern : GoodIn wsL_law (wsV RL 34 RX6 yX6_setPattern wsX6_setPattern) := goodIn_app (goodIn_of _ (by decide +kernel)) ggL_law_X6_setPattern
set_option maxRecDepth 20000 in
theorem ggL_law_X5_setGroup : GoodIn wsL_law wsX5_setGroup := goodIn_r _ [269, 15, 20, 270, 190, 191, 192, 14, 193, 35, 34, 124, 2, 125, 123, 126, 127, 128, 19, 129, 74, 130, 131, 132, 133, 134, 135, 136, 137, 138, 139, 37, 140, 141, 142, 143, 38, 45, 144, 145, 146, 147, 148, 149, 150, 151, 152, 153, 154, 47, 155, 58, 59, 60, 61, 62, 63, 68, 52, 156, 53, 651, 652, 653, 654, 655, 691, 692, 693, 694, 695, 696, 697, 698, 699, 669, 670, 671, 672, 673, 674, 675, 676, 677, 678, 679, 680, 681, 682, 683, 684] (by decide +kernel) (by decide +kernel)
set_option maxRecDepth 20000 in
theorem gL_law_X5_setGroup : GoodIn wsL_law (wsV RL 35 RX5 yX5_setGroup wsX5_setGroup) := goodIn_app (goodIn_of _ (by decide +kernel)) ggL_law_X5_setGroup
set_option maxRecDepth 20000 in
theorem ggL_law_X6_setGroup : GoodIn wsL_law wsX6_setGroup := goodIn_r _ [274, 211, 212, 213, 5, 214, 92, 170, 171, 172, 173, 174, 175, 176, 95, 96, 94, 215, 216, 217, 218, 110, 111, 112, 113, 181, 182, 183, 184, 185, 97, 98, 656, 657, 658, 659, 660, 661, 662, 663, 664, 665, 666, 667, 668] (by decide +kernel) (by decide +kernel)
set_option maxRecDepth 20000 in
theorem gL_law_X6_setGroup : GoodIn wsL_law (wsV RL 38 RX6 yX6_setGroup wsX6_setGroup) := goodIn_app (goodIn_of _ (by decide +kernel)) ggL_law_X6_setGroup
set_option maxRecDepth 20000 in
theorem ggL_law_X5_setBlink : GoodIn wsL_law wsX5_setBlink := goodIn_r _ [278, 20, 15, 279, 280, 123, 124, 2, 125, 126, 127, 128, 19, 129, 74, 130, 131, 132, 133, 134, 135, 136, 137, 138, 14, 139, 34, 35, 37, 140, 141, 142, 143, 38, 45, 144, 145, 146, 147, 148, 149, 150, 151, 152, 153, 154, 47, 155, 58, 59, 60, 61, 62, 63, 68, 52, 156, 53, 281, 282, 283, 284, 285, 651, 652, 653, 654, 655, 669, 670, 671, 672, 673, 674, 675, 676, 677, 678, 679, 680, 681, 682, 683, 684, 691, 692, 693, 694, 695, 696, 697, 698, 699] (by decide +kernel) (by decide +kernel)
set_option maxRecDepth 20000 in
theorem gL_law_X5_setBlink : GoodIn wsL_law (wsV RL 39 RX5 yX5_setBlink wsX5_setBlink) := goodIn_app (goodIn_of _ (by decide +kernel)) ggL_law_X5_setBlink
set_option maxRecDepth 20000 in
theorem ggL_law_X6_setBlink : GoodIn wsL_law wsX6_setBlink := goodIn_r _ [289, 92, 170, 171, 5, 172, 173, 174, 175, 176, 95, 96, 94, 290, 291, 292, 293, 215, 216, 217, 218, 181, 182, 183, 184, 185, 97, 98, 656, 657, 658, 659, 660, 661, 662, 663, 664, 665, 666, 667, 668] (by decide +kernel) (by decide +kernel)
set_option maxRecDepth 20000 in
theorem gL_law_X6_setBlink : GoodIn wsL_law (wsV RL 43 RX6 yX6_setBlink wsX6_setBlink) := goodIn_app (goodIn_of _ (by decide +kernel)) ggL_law_X6_setBlink
set_option maxRecDepth 20000 in
theorem ggL_law_X5_set : GoodIn wsL_law wsX5_set := goodIn_r _ [297, 298, 299, 20, 15, 300, 123, 124, 2, 125, 126, 127, 128, 19, 129, 74, 130, 131, 132, 133, 134, 135, 136, 137, 138, 14, 139, 34, 35, 37, 140, 141, 142, 143, 38, 45, 144, 145, 146, 147, 148, 149, 150, 151, 152, 153, 154, 47, 155, 58, 59, 60, 61, 62, 63, 68, 52, 156, 53, 651, 652, 653, 654, 655, 669, 670, 671, 672, 673, 674, 675, 676, 677, 678, 679, 680, 681, 682, 683, 684, 691, 692, 693, 694, 695, 696, 697, 698, 699] (by decide +kernel) (by decide +kernel)
set_option maxRecDepth 20000 in
theorem gL_law_X5_set : GoodIn wsL_law (wsV RL 44 RX5 yX5_set wsX5_set) := goodIn_app (goodIn_of _ (by decide +kernel)) ggL_law_X5_set
set_option maxRecDepth 20000 in
theorem ggL_law_X6_set : GoodIn wsL_law wsX6_set := goodIn_r _ [304, 305, 92, 170, 171, 5, 172, 173, 174, 175, 176, 95, 96, 94, 181, 182, 183, 184, 185, 97, 98, 656, 657, 658, 659, 660, 661, 662, 663, 664, 665, 666, 667, 668] (by decide +kernel) (by decide +kernel)
set_option maxRecDepth 20000 in
theorem gL_law_X6_set : GoodIn wsL_law (wsV RL 47 RX6 yX6_set wsX6_set) := goodIn_app (goodIn_of _ (by decide +kernel)) ggL_law_X6_set
set_option maxRecDepth 20000 in
theorem ggL_law_X5_replace : GoodIn wsL_law wsX5_replace := goodIn_r _ [309, 15, 20, 310, 190, 191, 192, 14, 193, 35, 34, 124, 2, 125, 126, 127, 128, 19, 129, 74, 130, 131, 132, 133, 134, 135, 136, 137, 138, 139, 37, 140, 141, 142, 143, 38, 45, 144, 145, 146, 147, 148, 149, 150, 151, 152, 153, 154, 47, 155, 58, 59, 60, 61, 62, 63, 68, 52, 156, 53, 311, 312, 313, 314, 315, 316, 317, 318, 65, 66, 67, 651, 652, 653, 654, 655, 691, 692, 693, 694, 695, 696, 697, 698, 699, 669, 670, 671, 672, 673, 674, 675, 676, 677, 678, 679, 680, 681, 682, 683, 684] (by decide +kernel) (by decide +kernel)
set_option maxRecDepth 20000 in
theorem gL_law_X5_replace : GoodIn wsL_law (wsV RL 48 RX5 yX5_replace wsX5_replace) := goodIn_app (goodIn_of _ (by decide +kernel)) ggL_law_X5_replace
set_option maxRecDepth 20000 in
theorem ggL_law_X6_replace : GoodIn wsL_law wsX6_replace := goodIn_r _ [322, 211, 212, 213, 5, 214, 92, 170, 171, 172, 173, 174, 175, 176, 95, 96, 94, 323, 324, 325, 326, 114, 115, 116, 117, 181, 182, 183, 184, 185, 97, 98, 656, 657, 658, 659, 660, 661, 662, 663, 664, 665, 666, 667, 668] (by decide +kernel) (by decide +kernel)
set_option maxRecDepth 20000 in
theorem gL_law_X6_replace : GoodIn wsL_law (wsV RL 51 RX6 yX6_replace wsX6_replace) := goodIn_app (goodIn_of _ (by decide +kernel)) ggL_law_X6_replace
set_option maxRecDepth 20000 in
theorem ggL_law_X5_test : GoodIn wsL_law wsX5_test := goodIn_r _ [330, 20, 15, 331, 123, 124, 2, 125, 126, 127, 128, 19, 129, 74, 130, 131, 132, 133, 134, 135, 136, 137, 138, 14, 139, 34, 35, 37, 140, 141, 142, 143, 38, 45, 144, 145, 146, 147, 148, 149, 150, 151, 152, 153, 154, 47, 155, 58, 59, 60, 61, 62, 63, 68, 52, 156, 53, 651, 652, 653, 654, 655, 669, 670, 671, 672, 673, 674, 675, 676, 677, 678, 679, 680, 681, 682, 683, 684, 691, 692, 693, 694, 695, 696, 697, 698, 699] (by decide +kernel) (by decide +kernel)
set_option maxRecDepth 20000 in
theorem gL_law_X5_test : GoodIn wsL_law (wsV RL 52 RX5 yX5_test wsX5_test) := goodIn_app (goodIn_of _ (by decide +kernel)) ggL_law_X5_test
set_option maxRecDepth 20000 in
theorem ggL_law_X6_test : GoodIn wsL_law wsX6_test := goodIn_r _ [335, 92, 170, 171, 5, 172, 173, 174, 175, 176, 95, 96, 94, 181, 182, 183, 184, 185, 97, 98, 656, 657, 658, 659, 660, 661, 662, 663, 664, 665, 666, 667, 668] (by decide +kernel) (by decide +kernel)
set_option maxRecDepth 20000 in
theorem gL_law_X6_test : GoodIn wsL_law (wsV RL 55 RX6 yX6_test wsX6_test) := goodIn_app (goodIn_of _ (by decide +kernel)) ggL_law_X6_test
set_option maxRecDepth 20000 in
theorem ggL_law_X5_pass : GoodIn wsL_law wsX5_pass := goodIn_r _ [339, 20, 15, 123, 124, 2, 125, 126, 127, 128, 19, 129, 74, 130, 131, 132, 133, 134, 135, 136, 137, 138, 14, 139, 34, 35, 37, 140, 141, 142, 143, 38, 45, 144, 145, 146, 147, 148, 149, 150, 151, 152, 153, 154, 47, 155, 58, 59, 60, 61, 62, 63, 68, 52, 156, 53, 340, 341, 342, 343, 344, 345, 346, 347, 348, 349, 350, 351, 352, 198, 353, 354, 355, 356, 357, 358, 359, 360, 361, 362, 363, 285, 364, 237, 238, 239, 203, 204, 205, 206, 365, 366, 367, 368, 369, 370, 371, 372, 373, 374, 375, 376, 377, 378, 379, 380, 381, 312, 313, 314, 315, 316, 317, 382, 383, 384, 385, 386, 387, 388, 389, 200, 201, 202, 162, 163, 164, 165, 651, 652, 653, 654, 655, 682, 683, 684, 669, 670, 671, 672, 673, 674, 675, 676, 677, 678, 679, 680, 681, 691, 692, 693, 694, 695, 696, 697, 698, 699] (by decide +kernel) (by decide +kernel)
set_option maxRecDepth 20000 in
theorem gL_law_X5_pass : GoodIn wsL_law (wsV RL 56 RX5 yX5_pass wsX5_pass) := goodIn_app (goodIn_of _ (by decide +kernel)) ggL_law_X5_pass
set_option maxRecDepth 20000 in
theorem ggL_law_X6_pass : GoodIn wsL_law wsX6_pass := goodIn_r _ [393, 170, 171, 5, 172, 173, 174, 175, 176, 95, 92, 96, 94, 394, 395, 396, 397, 398, 399, 400, 401, 402, 403, 404, 223, 224, 225, 226, 215, 216, 217, 218, 405, 406, 407, 408, 409, 410, 411, 412, 244, 245, 246, 247, 413, 414, 415, 416, 110, 111, 112, 113, 417, 418, 419, 420, 421, 422, 423, 424, 425, 426, 427, 219, 220, 221, 222, 177, 178, 179, 180, 181, 182, 183, 184, 185, 97, 98, 656, 657, 658, 659, 660, 661, 662, 663, 664, 665, 666, 667, 668] (by decide +kernel) (by decide +kernel)
set_option maxRecDepth 20000 in
theorem gL_law_X6_pass : GoodIn wsL_law (wsV RL 59 RX6 yX6_pass wsX6_pass) := goodIn_app (goodIn_of _ (by decide +kernel)) ggL_law_X6_pass
set_option maxRecDepth 20000 in
theorem ggL_law_X5_passFrames : GoodIn wsL_law wsX5_passFrames := goodIn_r _ [431, 20, 15, 432, 433, 123, 124, 2, 125, 126, 127, 128, 19, 129, 74, 130, 131, 132, 133, 134, 135, 136, 137, 138, 14, 139, 34, 35, 37, 140, 141, 142, 143, 38, 45, 144, 145, 146, 147, 148, 149, 150, 151, 152, 153, 154, 47, 155, 58, 59, 60, 61, 62, 63, 68, 52, 156, 53, 199, 200, 201, 202, 203, 204, 205, 206, 198, 340, 341, 342, 343, 344, 345, 346, 347, 348, 349, 350, 351, 352, 353, 354, 355, 356, 357, 358, 359, 360, 361, 362, 363, 285, 364, 237, 238, 239, 365, 366, 367, 368, 369, 370, 371, 372, 373, 374, 375, 376, 377, 378, 379, 380, 381, 312, 313, 314, 315, 316, 317, 382, 383, 384, 385, 386, 387, 388, 389, 162, 163, 164, 165, 651, 652, 653, 654, 655, 669, 670, 671, 672, 673, 674, 675, 676, 677, 678, 679, 680, 681, 682, 683, 684, 691, 692, 693, 694, 695, 696, 697, 698, 699] (by decide +kernel) (by decide +kernel)
set_option maxRecDepth 20000 in
theorem gL_law_X5_passFrames : GoodIn wsL_law (wsV RL 60 RX5 yX5_passFrames wsX5_passFrames) := goodIn_app (goodIn_of _ (by decide +kernel)) ggL_law_X5_passFrames
set_option maxRecDepth 20000 in
theorem ggL_law_X6_passFrames : GoodIn wsL_law wsX6_passFrames := goodIn_r _ [437, 92, 170, 171, 5, 172, 173, 174, 175, 176, 95, 96, 94, 394, 395, 396, 397, 398, 399, 400, 401, 402, 403, 404, 223, 224, 225, 226, 215, 216, 217, 218, 405, 406, 407, 408, 409, 410, 411, 412, 244, 245, 246, 247, 413, 414, 415, 416, 110, 111, 112, 113, 417, 418, 419, 420, 421, 422, 423, 424, 425, 426, 427, 219, 220, 221, 222, 177, 178, 179, 180, 181, 182, 183, 184, 185, 97, 98, 656, 657, 658, 659, 660, 661, 662, 663, 664, 665, 666, 667, 668] (by decide +kernel) (by decide +kernel)
set_option maxRecDepth 20000 in
theorem gL_law_X6_passFrames : GoodIn wsL_law (wsV RL 63 RX6 yX6_passFrames wsX6_passFrames) := goodIn_app (goodIn_of _ (by decide +kernel)) ggL_law_X6_passFrames
set_option maxRecDepth 20000 in
theorem ggL_law_X5_type : GoodIn wsL_law wsX5_type := goodIn_r _ [441, 26, 442, 443, 444, 445, 25, 446, 447, 448, 449, 450, 451, 80, 651, 652, 653, 654, 655, 685, 686, 687, 688] (by decide +kernel) (by decide +kernel)
set_option maxRecDepth 20000 in
theorem gL_law_X5_type : GoodIn wsL_law (wsV RL 64 RX5 yX5_type wsX5_type) := goodIn_app (goodIn_of _ (by decide +kernel)) ggL_law_X5_type
set_option maxRecDepth 20000 in
theorem ggL_law_X6_type : GoodIn wsL_law wsX6_type := goodIn_r _ [455, 456, 103, 656, 657, 658, 659, 660, 661, 662, 663, 664, 665, 666, 667, 668] (by decide +kernel) (by decide +kernel)
set_option maxRecDepth 20000 in
theorem gL_law_X6_type : GoodIn wsL_law (wsV RL 68 RX6 yX6_type wsX6_type) := goodIn_app (goodIn_of _ (by decide +kernel)) ggL_law_X6_type
set_option maxRecDepth 20000 in
theorem ggL_law_X5_clearText : GoodIn wsL_law wsX5_clearText := goodIn_r _ [460, 26, 442, 651, 652, 653, 654, 655, 685, 686, 687, 688] (by decide +kernel) (by decide +kernel)
set_option maxRecDepth 20000 in
theorem gL_law_X5_clearText : GoodIn wsL_law (wsV RL 69 RX5 yX5_clearText wsX5_clearText) := goodIn_app (goodIn_of _ (by decide +kernel)) ggL_law_X5_clearText
set_option maxRecDepth 20000 in
theorem ggL_law_X6_clearText : GoodIn wsL_law wsX6_clearText := goodIn_r _ [464, 456, 656, 657, 658, 659, 660, 661, 662, 663, 664, 665, 666, 667, 668] (by decide +kernel) (by decide +kernel)
set_option maxRecDepth 20000 in
theorem gL_law_X6_clearText : GoodIn wsL_law (wsV RL 73 RX6 yX6_clearText wsX6_clearText) := goodIn_app (goodIn_of _ (by decide +kernel)) ggL_law_X6_clearText
set_option maxRecDepth 20000 in
theorem ggL_law_X5_show : GoodIn wsL_law wsX5_show := goodIn_r _ [468, 26, 15, 122, 20, 469, 470, 471, 472, 473, 25, 474, 81, 475, 447, 80, 476, 2, 477, 478, 479, 126, 127, 128, 19, 129, 74, 130, 131, 132, 133, 134, 135, 136, 137, 138, 14, 139, 34, 35, 37, 140, 141, 142, 143, 38, 45, 144, 145, 146, 147, 148, 149, 150, 151, 152, 153, 154, 47, 155, 58, 59, 60, 61, 62, 63, 68, 52, 156, 53, 480, 481, 482, 483, 357, 651, 652, 653, 654, 655, 669, 670, 671, 672, 673, 674, 675, 676, 677, 678, 679, 680, 681, 685, 686, 687, 688, 682, 683, 684, 691, 692, 693, 694, 695, 696, 697, 698, 699] (by decide +kernel) (by decide +kernel)
set_option maxRecDepth 20000 in
theorem gL_law_X5_show : GoodIn wsL_law (wsV RL 74 RX5 yX5_show wsX5_show) := goodIn_app (goodIn_of _ (by decide +kernel)) ggL_law_X5_show
set_option maxRecDepth 20000 in
theorem ggL_law_X6_show : GoodIn wsL_law wsX6_show := goodIn_r _ [487, 456, 103, 92, 104, 488, 489, 5, 490, 173, 174, 175, 176, 95, 96, 94, 110, 111, 112, 113, 181, 182, 183, 184, 185, 97, 98, 656, 657, 658, 659, 660, 661, 662, 663, 664, 665, 666, 667, 668] (by decide +kernel) (by decide +kernel)
set_option maxRecDepth 20000 in
theorem gL_law_X6_show : GoodIn wsL_law (wsV RL 77 RX6 yX6_show wsX6_show) := goodIn_app (goodIn_of _ (by decide +kernel)) ggL_law_X6_show
set_option maxRecDepth 20000 in
theorem ggL_law_X5_undo : GoodIn wsL_law wsX5_undo := goodIn_r _ [494, 20, 495, 15, 496, 497, 498, 19, 499, 130, 74, 131, 136, 137, 138, 14, 139, 34, 35, 37, 140, 141, 142, 143, 38, 45, 144, 145, 146, 147, 148, 149, 150, 151, 152, 153, 154, 47, 155, 58, 59, 60, 61, 62, 63, 68, 52, 156, 53, 651, 652, 653, 654, 655, 682, 683, 684, 669, 670, 671, 672, 673, 674, 675, 676, 677, 678, 679, 680, 681, 691, 692, 693, 694, 695, 696, 697, 698, 699] (by decide +kernel) (by decide +kernel)
set_option maxRecDepth 20000 in
theorem gL_law_X5_undo : GoodIn wsL_law (wsV RL 78 RX5 yX5_undo wsX5_undo) := goodIn_app (goodIn_of _ (by decide +kernel)) ggL_law_X5_undo
set_option maxRecDepth 20000 in
theorem ggL_law_X6_undo : GoodIn wsL_law wsX6_undo := goodIn_r _ [503, 185, 92, 97, 94, 98, 656, 657, 658, 659, 660, 661, 662, 663, 664, 665, 666, 667, 668] (by decide +kernel) (by decide +kernel)
set_option maxRecDepth 20000 in
theorem gL_law_X6_undo : GoodIn wsL_law (wsV RL 81 RX6 yX6_undo wsX6_undo) := goodIn_app (goodIn_of _ (by decide +kernel)) ggL_law_X6_undo
set_option maxRecDepth 20000 in
theorem ggL_law_X5_keep : GoodIn wsL_law wsX5_keep := goodIn_r _ [507, 22, 508, 15, 509, 433, 123, 124, 2, 125, 510, 137, 138, 14, 139, 34, 35, 37, 140, 141, 142, 143, 38, 45, 144, 145, 146, 147, 148, 149, 150, 151, 152, 153, 154, 47, 155, 58, 59, 60, 61, 62, 63, 68, 52, 156, 53, 651, 652, 653, 654, 655, 689, 690, 669, 670, 671, 672, 673, 674, 675, 676, 677, 678, 679, 680, 681, 691, 692, 693, 694, 695, 696, 697, 698, 699] (by decide +kernel) (by decide +kernel)
set_option maxRecDepth 20000 in
theorem gL_law_X5_keep : GoodIn wsL_law (wsV RL 82 RX5 yX5_keep wsX5_keep) := goodIn_app (goodIn_of _ (by decide +kernel)) ggL_law_X5_keep
set_option maxRecDepth 20000 in
theorem ggL_law_X6_keep : GoodIn wsL_law wsX6_keep := goodIn_r _ [514, 102, 99, 92, 100, 94, 170, 171, 5, 172, 656, 657, 658, 659, 660, 661, 662, 663, 664, 665, 666, 667, 668] (by decide +kernel) (by decide +kernel)
set_option maxRecDepth 20000 in
theorem gL_law_X6_keep : GoodIn wsL_law (wsV RL 85 RX6 yX6_keep wsX6_keep) := goodIn_app (goodIn_of _ (by decide +kernel)) ggL_law_X6_keep
set_option maxRecDepth 20000 in
theorem ggL_law_X5_restore : GoodIn wsL_law wsX5_restore := goodIn_r _ [518, 22, 509, 20, 15, 508, 433, 123, 124, 2, 125, 126, 127, 128, 19, 129, 74, 130, 131, 132, 133, 134, 135, 136, 137, 138, 14, 139, 34, 35, 37, 140, 141, 142, 143, 38, 45, 144, 145, 146, 147, 148, 149, 150, 151, 152, 153, 154, 47, 155, 58, 59, 60, 61, 62, 63, 68, 52, 156, 53, 510, 651, 652, 653, 654, 655, 689, 690, 669, 670, 671, 672, 673, 674, 675, 676, 677, 678, 679, 680, 681, 682, 683, 684, 691, 692, 693, 694, 695, 696, 697, 698, 699] (by decide +kernel) (by decide +kernel)
set_option maxRecDepth 20000 in
theorem gL_law_X5_restore : GoodIn wsL_law (wsV RL 86 RX5 yX5_restore wsX5_restore) := goodIn_app (goodIn_of _ (by decide +kernel)) ggL_law_X5_restore
set_option maxRecDepth 20000 in
theorem ggL_law_X6_restore : GoodIn wsL_law wsX6_restore := goodIn_r _ [522, 102, 92, 99, 94, 100, 170, 171, 5, 172, 173, 174, 175, 176, 95, 96, 181, 182, 183, 184, 185, 97, 98, 656, 657, 658, 659, 660, 661, 662, 663, 664, 665, 666, 667, 668] (by decide +kernel) (by decide +kernel)
set_option maxRecDepth 20000 in
theorem gL_law_X6_restore : GoodIn wsL_law (wsV RL 89 RX6 yX6_restore wsX6_restore) := goodIn_app (goodIn_of _ (by decide +kernel)) ggL_law_X6_restore
set_option maxRecDepth 20000 in
theorem ggL_law_X5_digit : GoodIn wsL_law wsX5_digit := goodIn_r _ [526, 15, 261, 527, 231, 252, 270, 300, 310, 528, 190, 191, 192, 14, 193, 35, 34, 124, 2, 125, 232, 233, 234, 47, 235, 60, 236, 237, 238, 239, 58, 59, 529, 204, 205, 206, 198, 530, 531, 532, 533, 52, 534, 535, 536, 537, 538, 539, 540, 479, 478, 651, 652, 653, 654, 655, 691, 692, 693, 694, 695, 696, 697, 698, 699, 669, 670, 671, 672, 673, 674, 675, 676, 677, 678, 679, 680, 681] (by decide +kernel) (by decide +kernel)
set_option maxRecDepth 20000 in
theorem gL_law_X5_digit : GoodIn wsL_law (wsV RL 90 RX5 yX5_digit wsX5_digit) := goodIn_app (goodIn_of _ (by decide +kernel)) ggL_law_X5_digit
set_option maxRecDepth 20000 in
theorem ggL_law_X6_digit : GoodIn wsL_law wsX6_digit := goodIn_r _ [544, 92, 211, 212, 213, 5, 214, 170, 171, 172, 215, 216, 217, 218, 244, 245, 246, 247, 223, 224, 225, 226, 545, 546, 547, 548, 549, 550, 551, 552, 553, 554, 555, 556, 488, 489, 490, 656, 657, 658, 659, 660, 661, 662, 663, 664, 665, 666, 667, 668] (by decide +kernel) (by decide +kernel)
set_option maxRecDepth 20000 in
theorem gL_law_X6_digit : GoodIn wsL_law (wsV RL 93 RX6 yX6_digit wsX6_digit) := goodIn_app (goodIn_of _ (by decide +kernel)) ggL_law_X6_digit
set_option maxRecDepth 20000 in
theorem ggL_law_X5_segment : GoodIn wsL_law wsX5_segment := goodIn_r _ [560, 15, 561, 562, 310, 300, 190, 191, 192, 14, 193, 35, 34, 124, 2, 125, 123, 530, 531, 532, 47, 533, 52, 651, 652, 653, 654, 655, 691, 692, 693, 694, 695, 696, 697, 698, 699, 669, 670, 671, 672, 673, 674, 675, 676, 677, 678, 679, 680, 681] (by decide +kernel) (by decide +kernel)
set_option maxRecDepth 20000 in
theorem gL_law_X5_segment : GoodIn wsL_law (wsV RL 94 RX5 yX5_segment wsX5_segment) := goodIn_app (goodIn_of _ (by decide +kernel)) ggL_law_X5_segment
set_option maxRecDepth 20000 in
theorem ggL_law_X6_segment : GoodIn wsL_law wsX6_segment := goodIn_r _ [566, 92, 211, 212, 213, 5, 214, 170, 171, 172, 545, 546, 547, 548, 656, 657, 658, 659, 660, 661, 662, 663, 664, 665, 666, 667, 668] (by decide +kernel) (by decide +kernel)
set_option maxRecDepth 20000 in
theorem gL_law_X6_segment : GoodIn wsL_law (wsV RL 97 RX6 yX6_segment wsX6_segment) := goodIn_app (goodIn_of _ (by decide +kernel)) ggL_law_X6_segment
set_option maxRecDepth 20000 in
theorem ggL_law_X5_litIn : GoodIn wsL_law wsX5_litIn := goodIn_r _ [570, 15, 16, 190, 191, 192, 14, 193, 35, 34, 124, 2, 125, 123, 510, 137, 138, 139, 37, 140, 141, 142, 143, 38, 45, 144, 145, 146, 147, 148, 149, 150, 151, 152, 153, 154, 47, 155, 58, 59, 60, 61, 62, 63, 68, 52, 156, 53, 340, 341, 342, 343, 344, 345, 346, 347, 348, 349, 350, 351, 352, 198, 353, 354, 355, 356, 357, 358, 359, 360, 361, 362, 363, 285, 364, 237, 238, 239, 203, 204, 205, 206, 365, 366, 367, 368, 369, 370, 371, 372, 373, 374, 375, 376, 134, 377, 378, 379, 380, 133, 135, 381, 312, 313, 314, 315, 316, 317, 382, 383, 384, 385, 386, 387, 388, 389, 200, 201, 202, 162, 163, 164, 165, 571, 572, 651, 652, 653, 654, 655, 669, 670, 671, 672, 673, 674, 675, 676, 677, 678, 679, 680, 681, 691, 692, 693, 694, 695, 696, 697, 698, 699] (by decide +kernel) (by decide +kernel)
set_option maxRecDepth 20000 in
theorem gL_law_X5_litIn : GoodIn wsL_law (wsV RL 98 RX5 yX5_litIn wsX5_litIn) := goodIn_app (goodIn_of _ (by decide +kernel)) ggL_law_X5_litIn
set_option maxRecDepth 20000 in
theorem ggL_law_X6_litIn : GoodIn wsL_law wsX6_litIn := goodIn_r _ [576, 211, 212, 213, 5, 214, 92, 170, 171, 172, 173, 174, 175, 176, 95, 96, 94, 394, 395, 396, 397, 398, 399, 400, 401, 402, 403, 404, 223, 224, 225, 226, 215, 216, 217, 218, 405, 406, 407, 408, 409, 410, 411, 412, 244, 245, 246, 247, 413, 414, 415, 416, 110, 111, 112, 113, 417, 418, 419, 420, 421, 422, 423, 424, 425, 426, 427, 219, 220, 221, 222, 177, 178, 179, 180, 577, 578, 579, 580, 656, 657, 658, 659, 660, 661, 662, 663, 664, 665, 666, 667, 668] (by decide +kernel) (by decide +kernel)
set_option maxRecDepth 20000 in
theorem gL_law_X6_litIn : GoodIn wsL_law (wsV RL 101 RX6 yX6_litIn wsX6_litIn) := goodIn_app (goodIn_of _ (by decide +kernel)) ggL_law_X6_litIn
set_option maxRecDepth 20000 in
theorem ggL_law_X5_steadyGlow : GoodIn wsL_law wsX5_steadyGlow := goodIn_r _ [584, 15, 300, 190, 191, 192, 14, 193, 35, 34, 124, 2, 125, 232, 233, 234, 47, 235, 60, 236, 237, 238, 239, 58, 59, 199, 200, 201, 202, 203, 204, 205, 206, 198, 585, 586, 587, 588, 378, 379, 375, 376, 134, 377, 380, 133, 135, 589, 373, 374, 651, 652, 653, 654, 655, 669, 670, 671, 672, 673, 674, 675, 676, 677, 678, 679, 680, 681, 691, 692, 693, 694, 695, 696, 697, 698, 699] (by decide +kernel) (by decide +kernel)
set_option maxRecDepth 20000 in
theorem gL_law_X5_steadyGlow : GoodIn wsL_law (wsV RL 102 RX5 yX5_steadyGlow wsX5_steadyGlow) := goodIn_app (goodIn_of _ (by decide +kernel)) ggL_law_X5_steadyGlow
set_option maxRecDepth 20000 in
theorem ggL_law_X6_steadyGlow : GoodIn wsL_law wsX6_steadyGlow := goodIn_r _ [593, 211, 212, 213, 5, 214, 92, 170, 171, 172, 244, 245, 246, 247, 215, 216, 217, 218, 219, 220, 221, 222, 223, 224, 225, 226, 421, 422, 423, 424, 425, 426, 427, 656, 657, 658, 659, 660, 661, 662, 663, 664, 665, 666, 667, 668] (by decide +kernel) (by decide +kernel)
set_option maxRecDepth 20000 in
theorem gL_law_X6_steadyGlow : GoodIn wsL_law (wsV RL 105 RX6 yX6_steadyGlow wsX6_steadyGlow) := goodIn_app (goodIn_of _ (by decide +kernel)) ggL_law_X6_steadyGlow
set_option maxRecDepth 20000 in
theorem ggL_law_X5_current : GoodIn wsL_law wsX5_current := goodIn_r _ [597, 15, 598, 599, 600, 651, 652, 653, 654, 655, 669, 670, 671, 672, 673, 674, 675, 676, 677, 678, 679, 680, 681] (by decide +kernel) (by decide +kernel)
set_option maxRecDepth 20000 in
theorem gL_law_X5_current : GoodIn wsL_law (wsV RL 106 RX5 yX5_current wsX5_current) := goodIn_app (goodIn_of _ (by decide +kernel)) ggL_law_X5_current
set_option maxRecDepth 20000 in
theorem ggL_law_X6_current : GoodIn wsL_law wsX6_current := goodIn_r _ [604, 94, 170, 171, 5, 172, 656, 657, 658, 659, 660, 661, 662, 663, 664, 665, 666, 667, 668] (by decide +kernel) (by decide +kernel)
set_option maxRecDepth 20000 in
theorem gL_law_X6_current : GoodIn wsL_law (wsV RL 110 RX6 yX6_current wsX6_current) := goodIn_app (goodIn_of _ (by decide +kernel)) ggL_law_X6_current
set_option maxRecDepth 20000 in
theorem ggL_law_X5_thousandths : GoodIn wsL_law wsX5_thousandths := goodIn_r _ [608, 609, 123, 124, 2, 125, 610, 595, 596, 597, 15, 598, 599, 600, 651, 652, 653, 654, 655, 669, 670, 671, 672, 673, 674, 675, 676, 677, 678, 679, 680, 681] (by decide +kernel) (by decide +kernel)
set_option maxRecDepth 20000 in
theorem gL_law_X5_thousandths : GoodIn wsL_law (wsV RL 111 RX5 yX5_thousandths wsX5_thousandths) := goodIn_app (goodIn_of _ (by decide +kernel)) ggL_law_X5_thousandths
set_option maxRecDepth 20000 in
theorem ggL_law_X6_thousandths : GoodIn wsL_law wsX6_thousandths := goodIn_r _ [614, 94, 615, 170, 171, 5, 172, 656, 657, 658, 659, 660, 661, 662, 663, 664, 665, 666, 667, 668] (by decide +kernel) (by decide +kernel)
set_option maxRecDepth 20000 in
theorem gL_law_X6_thousandths : GoodIn wsL_law (wsV RL 114 RX6 yX6_thousandths wsX6_thousandths) := goodIn_app (goodIn_of _ (by decide +kernel)) ggL_law_X6_thousandths
set_option maxRecDepth 20000 in
theorem ggL_law_X5_duty : GoodIn wsL_law wsX5_duty := goodIn_r _ [619, 15, 433, 528, 190, 191, 192, 14, 193, 35, 34, 124, 2, 125, 651, 652, 653, 654, 655, 669, 670, 671, 672, 673, 674, 675, 676, 677, 678, 679, 680, 681, 691, 692, 693, 694, 695, 696, 697, 698, 699] (by decide +kernel) (by decide +kernel)
set_option maxRecDepth 20000 in
theorem gL_law_X5_duty : GoodIn wsL_law (wsV RL 115 RX5 yX5_duty wsX5_duty) := goodIn_app (goodIn_of _ (by decide +kernel)) ggL_law_X5_duty
set_option maxRecDepth 20000 in
theorem ggL_law_X6_duty : GoodIn wsL_law wsX6_duty := goodIn_r _ [623, 92, 211, 212, 213, 5, 214, 170, 171, 172, 215, 216, 217, 218, 656, 657, 658, 659, 660, 661, 662, 663, 664, 665, 666, 667, 668] (by decide +kernel) (by decide +kernel)
set_option maxRecDepth 20000 in
theorem gL_law_X6_duty : GoodIn wsL_law (wsV RL 118 RX6 yX6_duty wsX6_duty) := goodIn_app (goodIn_of _ (by decide +kernel)) ggL_law_X6_duty
set_option maxRecDepth 20000 in
theorem ggL_law_X5_count : GoodIn wsL_law wsX5_count := goodIn_r _ [627, 15, 433, 122, 628, 432, 331, 629, 300, 20, 495, 26, 442, 199, 200, 201, 14, 202, 35, 203, 204, 205, 206, 34, 198, 571, 350, 351, 352, 146, 630, 631, 632, 633, 358, 381, 312, 313, 314, 315, 316, 317, 651, 652, 653, 654, 655, 669, 670, 671, 672, 673, 674, 675, 676, 677, 678, 679, 680, 681, 682, 683, 684, 685, 686, 687, 688, 691, 692, 693, 694, 695, 696, 697, 698, 699] (by decide +kernel) (by decide +kernel)
set_option maxRecDepth 20000 in
theorem gL_law_X5_count : GoodIn wsL_law (wsV RL 119 RX5 yX5_count wsX5_count) := goodIn_app (goodIn_of _ (by decide +kernel)) ggL_law_X5_count
set_option maxRecDepth 20000 in
theorem ggL_law_X6_count : GoodIn wsL_law wsX6_count := goodIn_r _ [637, 92, 185, 456, 219, 220, 221, 5, 222, 223, 224, 225, 226, 215, 216, 217, 218, 401, 402, 403, 404, 638, 639, 640, 641, 323, 324, 325, 326, 656, 657, 658, 659, 660, 661, 662, 663, 664, 665, 666, 667, 668] (by decide +kernel) (by decide +kernel)
set_option maxRecDepth 20000 in
theorem gL_law_X6_count : GoodIn wsL_law (wsV RL 122 RX6 yX6_count wsX6_count) := goodIn_app (goodIn_of _ (by decide +kernel)) ggL_law_X6_count
set_option maxRecDepth 20000 in
theorem ggL_law_X5_group : GoodIn wsL_law wsX5_group := goodIn_r _ [645, 15, 279, 280, 123, 124, 2, 125, 646, 366, 367, 14, 368, 37, 38, 145, 281, 282, 283, 284, 35, 34, 285, 651, 652, 653, 654, 655, 669, 670, 671, 672, 673, 674, 675, 676, 677, 678, 679, 680, 681, 691, 692, 693, 694, 695, 696, 697, 698, 699] (by decide +kernel) (by decide +kernel)
set_option maxRecDepth 20000 in
theorem gL_law_X5_group : GoodIn wsL_law (wsV RL 123 RX5 yX5_group wsX5_group) := goodIn_app (goodIn_of _ (by decide +kernel)) ggL_law_X5_group
set_option maxRecDepth 20000 in
theorem ggL_law_X6_group : GoodIn wsL_law wsX6_group := goodIn_r _ [650, 92, 170, 171, 5, 172, 413, 414, 415, 416, 290, 291, 292, 293, 215, 216, 217, 218, 656, 657, 658, 659, 660, 661, 662, 663, 664, 665, 666, 667, 668] (by decide +kernel) (by decide +kernel)
set_option maxRecDepth 20000 in
theorem gL_law_X6_group : GoodIn wsL_law (wsV RL 126 RX6 yX6_group wsX6_group) := goodIn_app (goodIn_of _ (by decide +kernel)) ggL_law_X6_group
theorem dL_law_0 : decode cL_law 0 = .ok (.new 7, 3) := by decide +kernel
theorem dL_law_3 : decode cL_law 3 = .ok (.dup, 1) := by decide +kernel
theorem dL_law_4 : decode cL_law 4 = .ok (.invokespecial 9, 3) := by decide +kernel
theorem dL_law_7 : decode cL_law 7 = .ok (.astore_n 1, 1) := by decide +kernel
theorem dL_law_8 : decode cL_law 8 = .ok (.new 10, 3) := by decide +kernel
theorem dL_law_11 : decode cL_law 11 = .ok (.dup, 1) := by decide +kernel
theorem dL_law_12 : decode cL_law 12 = .ok (.invokespecial 12, 3) := by decide +kernel
theorem dL_law_15 : decode cL_law 15 = .ok (.astore_n 2, 1) := by decide +kernel
theorem dL_law_16 : decode cL_law 16 = .ok (.iconst 0, 1) := by decide +kernel
theorem dL_law_17 : decode cL_law 17 = .ok (.istore_n 3, 1) := by decide +kernel
theorem dL_law_18 : decode cL_law 18 = .ok (.iload_n 3, 1) := by decide +kernel
theorem dL_law_19 : decode cL_law 19 = .ok (.aload_n 0, 1) := by decide +kernel
theorem dL_law_20 : decode cL_law 20 = .ok (.arraylength, 1) := by decide +kernel
theorem dL_law_21 : decode cL_law 21 = .ok (.iconst 4, 1) := by decide +kernel
theorem dL_law_22 : decode cL_law 22 = .ok (.isub, 1) := by decide +kernel
theorem dL_law_23 : decode cL_law 23 = .ok (.if_icmp .gt 922, 3) := by decide +kernel
theorem dL_law_26 : decode cL_law 26 = .ok (.aload_n 0, 1) := by decide +kernel
theorem dL_law_27 : decode cL_law 27 = .ok (.iload_n 3, 1) := by decide +kernel
theorem dL_law_28 : decode cL_law 28 = .ok (.iaload, 1) := by decide +kernel
theorem dL_law_29 : decode cL_law 29 = .ok (.bipush 31, 2) := by decide +kernel
theorem dL_law_31 : decode cL_law 31 = .ok (.iand, 1) := by decide +kernel
theorem dL_law_32 : decode cL_law 32 = .ok (.tableswitch 907 0 26 #[124, 147, 180, 213, 246, 279, 312, 355, 388, 411, 434, 457, 480, 505, 518, 531, 544, 567, 590, 623, 666, 699, 722, 775, 798, 851, 874], 124) := by decide +kernel
theorem dL_law_156 : decode cL_law 156 = .ok (.aload_n 1, 1) := by decide +kernel
theorem dL_law_157 : decode cL_law 157 = .ok (.aload_n 0, 1) := by decide +kernel
theorem dL_law_158 : decode cL_law 158 = .ok (.iload_n 3, 1) := by decide +kernel
theorem dL_law_159 : decode cL_law 159 = .ok (.iconst 1, 1) := by decide +kernel
theorem dL_law_160 : decode cL_law 160 = .ok (.iadd, 1) := by decide +kernel
theorem dL_law_161 : decode cL_law 161 = .ok (.iaload, 1) := by decide +kernel
theorem dL_law_162 : decode cL_law 162 = .ok (.invokevirtual 13, 3) := by decide +kernel
theorem dL_law_165 : decode cL_law 165 = .ok (.aload_n 2, 1) := by decide +kernel
theorem dL_law_166 : decode cL_law 166 = .ok (.aload_n 0, 1) := by decide +kernel
theorem dL_law_167 : decode cL_law 167 = .ok (.iload_n 3, 1) := by decide +kernel
theorem dL_law_168 : decode cL_law 168 = .ok (.iconst 1, 1) := by decide +kernel
theorem dL_law_169 : decode cL_law 169 = .ok (.iadd, 1) := by decide +kernel
theorem dL_law_170 : decode cL_law 170 = .ok (.iaload, 1) := by decide +kernel
theorem dL_law_171 : decode cL_law 171 = .ok (.invokevirtual 17, 3) := by decide +kernel
theorem dL_law_174 : decode cL_law 174 = .ok (.if_icmp .eq 765, 3) := by decide +kernel
theorem dL_law_177 : decode cL_law 177 = .ok (.iconst 0, 1) := by decide +kernel
theorem dL_law_178 : decode cL_law 178 = .ok (.ireturn, 1) := by decide +kernel
theorem dL_law_179 : decode cL_law 179 = .ok (.aload_n 1, 1) := by decide +kernel
theorem dL_law_180 : decode cL_law 180 = .ok (.aload_n 0, 1) := by decide +kernel
theorem dL_law_181 : decode cL_law 181 = .ok (.iload_n 3, 1) := by decide +kernel
theorem dL_law_182 : decode cL_law 182 = .ok (.iconst 1, 1) := by decide +kernel
theorem dL_law_183 : decode cL_law 183 = .ok (.iadd, 1) := by decide +kernel
theorem dL_law_184 : decode cL_law 184 = .ok (.iaload, 1) := by decide +kernel
theorem dL_law_185 : decode cL_law 185 = .ok (.aload_n 0, 1) := by decide +kernel
theorem dL_law_186 : decode cL_law 186 = .ok (.iload_n 3, 1) := by decide +kernel
theorem dL_law_187 : decode cL_law 187 = .ok (.iconst 2, 1) := by decide +kernel
theorem dL_law_188 : decode cL_law 188 = .ok (.iadd, 1) := by decide +kernel
theorem dL_law_189 : decode cL_law 189 = .ok (.iaload, 1) := by decide +kernel
theorem dL_law_190 : decode cL_law 190 = .ok (.invokevirtual 18, 3) := by decide +kernel
theorem dL_law_193 : decode cL_law 193 = .ok (.aload_n 2, 1) := by decide +kernel
theorem dL_law_194 : decode cL_law 194 = .ok (.aload_n 0, 1) := by decide +kernel
theorem dL_law_195 : decode cL_law 195 = .ok (.iload_n 3, 1) := by decide +kernel
theorem dL_law_196 : decode cL_law 196 = .ok (.iconst 1, 1) := by decide +kernel
theorem dL_law_197 : decode cL_law 197 = .ok (.iadd, 1) := by decide +kernel
theorem dL_law_198 : decode cL_law 198 = .ok (.iaload, 1) := by decide +kernel
theorem dL_law_199 : decode cL_law 199 = .ok (.aload_n 0, 1) := by decide +kernel
theorem dL_law_200 : decode cL_law 200 = .ok (.iload_n 3, 1) := by decide +kernel
theorem dL_law_201 : decode cL_law 201 = .ok (.iconst 2, 1) := by decide +kernel
theorem dL_law_202 : decode cL_law 202 = .ok (.iadd, 1) := by decide +kernel
theorem dL_law_203 : decode cL_law 203 = .ok (.iaload, 1) := by decide +kernel
theorem dL_law_204 : decode cL_law 204 = .ok (.invokevirtual 22, 3) := by decide +kernel
theorem dL_law_207 : decode cL_law 207 = .ok (.if_icmp .eq 732, 3) := by decide +kernel
theorem dL_law_210 : decode cL_law 210 = .ok (.iconst 0, 1) := by decide +kernel
theorem dL_law_211 : decode cL_law 211 = .ok (.ireturn, 1) := by decide +kernel
theorem dL_law_212 : decode cL_law 212 = .ok (.aload_n 1, 1) := by decide +kernel
theorem dL_law_213 : decode cL_law 213 = .ok (.aload_n 0, 1) := by decide +kernel
theorem dL_law_214 : decode cL_law 214 = .ok (.iload_n 3, 1) := by decide +kernel
theorem dL_law_215 : decode cL_law 215 = .ok (.iconst 1, 1) := by decide +kernel
theorem dL_law_216 : decode cL_law 216 = .ok (.iadd, 1) := by decide +kernel
theorem dL_law_217 : decode cL_law 217 = .ok (.iaload, 1) := by decide +kernel
theorem dL_law_218 : decode cL_law 218 = .ok (.aload_n 0, 1) := by decide +kernel
theorem dL_law_219 : decode cL_law 219 = .ok (.iload_n 3, 1) := by decide +kernel
theorem dL_law_220 : decode cL_law 220 = .ok (.iconst 2, 1) := by decide +kernel
theorem dL_law_221 : decode cL_law 221 = .ok (.iadd, 1) := by decide +kernel
theorem dL_law_222 : decode cL_law 222 = .ok (.iaload, 1) := by decide +kernel
theorem dL_law_223 : decode cL_law 223 = .ok (.invokevirtual 23, 3) := by decide +kernel
theorem dL_law_226 : decode cL_law 226 = .ok (.aload_n 2, 1) := by decide +kernel
theorem dL_law_227 : decode cL_law 227 = .ok (.aload_n 0, 1) := by decide +kernel
theorem dL_law_228 : decode cL_law 228 = .ok (.iload_n 3, 1) := by decide +kernel
theorem dL_law_229 : decode cL_law 229 = .ok (.iconst 1, 1) := by decide +kernel
theorem dL_law_230 : decode cL_law 230 = .ok (.iadd, 1) := by decide +kernel
theorem dL_law_231 : decode cL_law 231 = .ok (.iaload, 1) := by decide +kernel
theorem dL_law_232 : decode cL_law 232 = .ok (.aload_n 0, 1) := by decide +kernel
theorem dL_law_233 : decode cL_law 233 = .ok (.iload_n 3, 1) := by decide +kernel
theorem dL_law_234 : decode cL_law 234 = .ok (.iconst 2, 1) := by decide +kernel
theorem dL_law_235 : decode cL_law 235 = .ok (.iadd, 1) := by decide +kernel
theorem dL_law_236 : decode cL_law 236 = .ok (.iaload, 1) := by decide +kernel
theorem dL_law_237 : decode cL_law 237 = .ok (.invokevirtual 26, 3) := by decide +kernel
theorem dL_law_240 : decode cL_law 240 = .ok (.if_icmp .eq 699, 3) := by decide +kernel
theorem dL_law_243 : decode cL_law 243 = .ok (.iconst 0, 1) := by decide +kernel
theorem dL_law_244 : decode cL_law 244 = .ok (.ireturn, 1) := by decide +kernel
theorem dL_law_245 : decode cL_law 245 = .ok (.aload_n 1, 1) := by decide +kernel
theorem dL_law_246 : decode cL_law 246 = .ok (.aload_n 0, 1) := by decide +kernel
theorem dL_law_247 : decode cL_law 247 = .ok (.iload_n 3, 1) := by decide +kernel
theorem dL_law_248 : decode cL_law 248 = .ok (.iconst 1, 1) := by decide +kernel
theorem dL_law_249 : decode cL_law 249 = .ok (.iadd, 1) := by decide +kernel
theorem dL_law_250 : decode cL_law 250 = .ok (.iaload, 1) := by decide +kernel
theorem dL_law_251 : decode cL_law 251 = .ok (.aload_n 0, 1) := by decide +kernel
theorem dL_law_252 : decode cL_law 252 = .ok (.iload_n 3, 1) := by decide +kernel
theorem dL_law_253 : decode cL_law 253 = .ok (.iconst 2, 1) := by decide +kernel
theorem dL_law_254 : decode cL_law 254 = .ok (.iadd, 1) := by decide +kernel
theorem dL_law_255 : decode cL_law 255 = .ok (.iaload, 1) := by decide +kernel
theorem dL_law_256 : decode cL_law 256 = .ok (.invokevirtual 27, 3) := by decide +kernel
theorem dL_law_259 : decode cL_law 259 = .ok (.aload_n 2, 1) := by decide +kernel
theorem dL_law_260 : decode cL_law 260 = .ok (.aload_n 0, 1) := by decide +kernel
theorem dL_law_261 : decode cL_law 261 = .ok (.iload_n 3, 1) := by decide +kernel
theorem dL_law_262 : decode cL_law 262 = .ok (.iconst 1, 1) := by decide +kernel
theorem dL_law_263 : decode cL_law 263 = .ok (.iadd, 1) := by decide +kernel
theorem dL_law_264 : decode cL_law 264 = .ok (.iaload, 1) := by decide +kernel
theorem dL_law_265 : decode cL_law 265 = .ok (.aload_n 0, 1) := by decide +kernel
theorem dL_law_266 : decode cL_law 266 = .ok (.iload_n 3, 1) := by decide +kernel
theorem dL_law_267 : decode cL_law 267 = .ok (.iconst 2, 1) := by decide +kernel
theorem dL_law_268 : decode cL_law 268 = .ok (.iadd, 1) := by decide +kernel
theorem dL_law_269 : decode cL_law 269 = .ok (.iaload, 1) := by decide +kernel
theorem dL_law_270 : decode cL_law 270 = .ok (.invokevirtual 30, 3) := by decide +kernel
theorem dL_law_273 : decode cL_law 273 = .ok (.if_icmp .eq 666, 3) := by decide +kernel
theorem dL_law_276 : decode cL_law 276 = .ok (.iconst 0, 1) := by decide +kernel
theorem dL_law_277 : decode cL_law 277 = .ok (.ireturn, 1) := by decide +kernel
theorem dL_law_278 : decode cL_law 278 = .ok (.aload_n 1, 1) := by decide +kernel
theorem dL_law_279 : decode cL_law 279 = .ok (.aload_n 0, 1) := by decide +kernel
theorem dL_law_280 : decode cL_law 280 = .ok (.iload_n 3, 1) := by decide +kernel
theorem dL_law_281 : decode cL_law 281 = .ok (.iconst 1, 1) := by decide +kernel
theorem dL_law_282 : decode cL_law 282 = .ok (.iadd, 1) := by decide +kernel
theorem dL_law_283 : decode cL_law 283 = .ok (.iaload, 1) := by decide +kernel
theorem dL_law_284 : decode cL_law 284 = .ok (.aload_n 0, 1) := by decide +kernel
theorem dL_law_285 : decode cL_law 285 = .ok (.iload_n 3, 1) := by decide +kernel
theorem dL_law_286 : decode cL_law 286 = .ok (.iconst 2, 1) := by decide +kernel
theorem dL_law_287 : decode cL_law 287 = .ok (.iadd, 1) := by decide +kernel
theorem dL_law_288 : decode cL_law 288 = .ok (.iaload, 1) := by decide +kernel
theorem dL_law_289 : decode cL_law 289 = .ok (.invokevirtual 31, 3) := by decide +kernel
theorem dL_law_292 : decode cL_law 292 = .ok (.aload_n 2, 1) := by decide +kernel
theorem dL_law_293 : decode cL_law 293 = .ok (.aload_n 0, 1) := by decide +kernel
theorem dL_law_294 : decode cL_law 294 = .ok (.iload_n 3, 1) := by decide +kernel
theorem dL_law_295 : decode cL_law 295 = .ok (.iconst 1, 1) := by decide +kernel
theorem dL_law_296 : decode cL_law 296 = .ok (.iadd, 1) := by decide +kernel
theorem dL_law_297 : decode cL_law 297 = .ok (.iaload, 1) := by decide +kernel
theorem dL_law_298 : decode cL_law 298 = .ok (.aload_n 0, 1) := by decide +kernel
theorem dL_law_299 : decode cL_law 299 = .ok (.iload_n 3, 1) := by decide +kernel
theorem dL_law_300 : decode cL_law 300 = .ok (.iconst 2, 1) := by decide +kernel
theorem dL_law_301 : decode cL_law 301 = .ok (.iadd, 1) := by decide +kernel
theorem dL_law_302 : decode cL_law 302 = .ok (.iaload, 1) := by decide +kernel
theorem dL_law_303 : decode cL_law 303 = .ok (.invokevirtual 34, 3) := by decide +kernel
theorem dL_law_306 : decode cL_law 306 = .ok (.if_icmp .eq 633, 3) := by decide +kernel
theorem dL_law_309 : decode cL_law 309 = .ok (.iconst 0, 1) := by decide +kernel
theorem dL_law_310 : decode cL_law 310 = .ok (.ireturn, 1) := by decide +kernel
theorem dL_law_311 : decode cL_law 311 = .ok (.aload_n 1, 1) := by decide +kernel
theorem dL_law_312 : decode cL_law 312 = .ok (.aload_n 0, 1) := by decide +kernel
theorem dL_law_313 : decode cL_law 313 = .ok (.iload_n 3, 1) := by decide +kernel
theorem dL_law_314 : decode cL_law 314 = .ok (.iconst 1, 1) := by decide +kernel
theorem dL_law_315 : decode cL_law 315 = .ok (.iadd, 1) := by decide +kernel
theorem dL_law_316 : decode cL_law 316 = .ok (.iaload, 1) := by decide +kernel
theorem dL_law_317 : decode cL_law 317 = .ok (.aload_n 0, 1) := by decide +kernel
theorem dL_law_318 : decode cL_law 318 = .ok (.iload_n 3, 1) := by decide +kernel
theorem dL_law_319 : decode cL_law 319 = .ok (.iconst 2, 1) := by decide +kernel
theorem dL_law_320 : decode cL_law 320 = .ok (.iadd, 1) := by decide +kernel
theorem dL_law_321 : decode cL_law 321 = .ok (.iaload, 1) := by decide +kernel
theorem dL_law_322 : decode cL_law 322 = .ok (.invokevirtual 35, 3) := by decide +kernel
theorem dL_law_325 : decode cL_law 325 = .ok (.aload_n 2, 1) := by decide +kernel
theorem dL_law_326 : decode cL_law 326 = .ok (.aload_n 0, 1) := by decide +kernel
theorem dL_law_327 : decode cL_law 327 = .ok (.iload_n 3, 1) := by decide +kernel
theorem dL_law_328 : decode cL_law 328 = .ok (.iconst 1, 1) := by decide +kernel
theorem dL_law_329 : decode cL_law 329 = .ok (.iadd, 1) := by decide +kernel
theorem dL_law_330 : decode cL_law 330 = .ok (.iaload, 1) := by decide +kernel
theorem dL_law_331 : decode cL_law 331 = .ok (.aload_n 0, 1) := by decide +kernel
theorem dL_law_332 : decode cL_law 332 = .ok (.iload_n 3, 1) := by decide +kernel
theorem dL_law_333 : decode cL_law 333 = .ok (.iconst 2, 1) := by decide +kernel
theorem dL_law_334 : decode cL_law 334 = .ok (.iadd, 1) := by decide +kernel
theorem dL_law_335 : decode cL_law 335 = .ok (.iaload, 1) := by decide +kernel
theorem dL_law_336 : decode cL_law 336 = .ok (.invokevirtual 38, 3) := by decide +kernel
theorem dL_law_339 : decode cL_law 339 = .ok (.if_icmp .eq 600, 3) := by decide +kernel
theorem dL_law_342 : decode cL_law 342 = .ok (.iconst 0, 1) := by decide +kernel
theorem dL_law_343 : decode cL_law 343 = .ok (.ireturn, 1) := by decide +kernel
theorem dL_law_344 : decode cL_law 344 = .ok (.aload_n 1, 1) := by decide +kernel
theorem dL_law_345 : decode cL_law 345 = .ok (.aload_n 0, 1) := by decide +kernel
theorem dL_law_346 : decode cL_law 346 = .ok (.iload_n 3, 1) := by decide +kernel
theorem dL_law_347 : decode cL_law 347 = .ok (.iconst 1, 1) := by decide +kernel
theorem dL_law_348 : decode cL_law 348 = .ok (.iadd, 1) := by decide +kernel
theorem dL_law_349 : decode cL_law 349 = .ok (.iaload, 1) := by decide +kernel
theorem dL_law_350 : decode cL_law 350 = .ok (.aload_n 0, 1) := by decide +kernel
theorem dL_law_351 : decode cL_law 351 = .ok (.iload_n 3, 1) := by decide +kernel
theorem dL_law_352 : decode cL_law 352 = .ok (.iconst 2, 1) := by decide +kernel
theorem dL_law_353 : decode cL_law 353 = .ok (.iadd, 1) := by decide +kernel
theorem dL_law_354 : decode cL_law 354 = .ok (.iaload, 1) := by decide +kernel
theorem dL_law_355 : decode cL_law 355 = .ok (.aload_n 0, 1) := by decide +kernel
theorem dL_law_356 : decode cL_law 356 = .ok (.iload_n 3, 1) := by decide +kernel
theorem dL_law_357 : decode cL_law 357 = .ok (.iconst 3, 1) := by decide +kernel
theorem dL_law_358 : decode cL_law 358 = .ok (.iadd, 1) := by decide +kernel
theorem dL_law_359 : decode cL_law 359 = .ok (.iaload, 1) := by decide +kernel
theorem dL_law_360 : decode cL_law 360 = .ok (.invokevirtual 39, 3) := by decide +kernel
theorem dL_law_363 : decode cL_law 363 = .ok (.aload_n 2, 1) := by decide +kernel
theorem dL_law_364 : decode cL_law 364 = .ok (.aload_n 0, 1) := by decide +kernel
theorem dL_law_365 : decode cL_law 365 = .ok (.iload_n 3, 1) := by decide +kernel
theorem dL_law_366 : decode cL_law 366 = .ok (.iconst 1, 1) := by decide +kernel
theorem dL_law_367 : decode cL_law 367 = .ok (.iadd, 1) := by decide +kernel
theorem dL_law_368 : decode cL_law 368 = .ok (.iaload, 1) := by decide +kernel
theorem dL_law_369 : decode cL_law 369 = .ok (.aload_n 0, 1) := by decide +kernel
theorem dL_law_370 : decode cL_law 370 = .ok (.iload_n 3, 1) := by decide +kernel
theorem dL_law_371 : decode cL_law 371 = .ok (.iconst 2, 1) := by decide +kernel
theorem dL_law_372 : decode cL_law 372 = .ok (.iadd, 1) := by decide +kernel
theorem dL_law_373 : decode cL_law 373 = .ok (.iaload, 1) := by decide +kernel
theorem dL_law_374 : decode cL_law 374 = .ok (.aload_n 0, 1) := by decide +kernel
theorem dL_law_375 : decode cL_law 375 = .ok (.iload_n 3, 1) := by decide +kernel
theorem dL_law_376 : decode cL_law 376 = .ok (.iconst 3, 1) := by decide +kernel
theorem dL_law_377 : decode cL_law 377 = .ok (.iadd, 1) := by decide +kernel
theorem dL_law_378 : decode cL_law 378 = .ok (.iaload, 1) := by decide +kernel
theorem dL_law_379 : decode cL_law 379 = .ok (.invokevirtual 43, 3) := by decide +kernel
theorem dL_law_382 : decode cL_law 382 = .ok (.if_icmp .eq 557, 3) := by decide +kernel
theorem dL_law_385 : decode cL_law 385 = .ok (.iconst 0, 1) := by decide +kernel
theorem dL_law_386 : decode cL_law 386 = .ok (.ireturn, 1) := by decide +kernel
theorem dL_law_387 : decode cL_law 387 = .ok (.aload_n 1, 1) := by decide +kernel
theorem dL_law_388 : decode cL_law 388 = .ok (.aload_n 0, 1) := by decide +kernel
theorem dL_law_389 : decode cL_law 389 = .ok (.iload_n 3, 1) := by decide +kernel
theorem dL_law_390 : decode cL_law 390 = .ok (.iconst 1, 1) := by decide +kernel
theorem dL_law_391 : decode cL_law 391 = .ok (.iadd, 1) := by decide +kernel
theorem dL_law_392 : decode cL_law 392 = .ok (.iaload, 1) := by decide +kernel
theorem dL_law_393 : decode cL_law 393 = .ok (.aload_n 0, 1) := by decide +kernel
theorem dL_law_394 : decode cL_law 394 = .ok (.iload_n 3, 1) := by decide +kernel
theorem dL_law_395 : decode cL_law 395 = .ok (.iconst 2, 1) := by decide +kernel
theorem dL_law_396 : decode cL_law 396 = .ok (.iadd, 1) := by decide +kernel
theorem dL_law_397 : decode cL_law 397 = .ok (.iaload, 1) := by decide +kernel
theorem dL_law_398 : decode cL_law 398 = .ok (.invokevirtual 44, 3) := by decide +kernel
theorem dL_law_401 : decode cL_law 401 = .ok (.aload_n 2, 1) := by decide +kernel
theorem dL_law_402 : decode cL_law 402 = .ok (.aload_n 0, 1) := by decide +kernel
theorem dL_law_403 : decode cL_law 403 = .ok (.iload_n 3, 1) := by decide +kernel
theorem dL_law_404 : decode cL_law 404 = .ok (.iconst 1, 1) := by decide +kernel
theorem dL_law_405 : decode cL_law 405 = .ok (.iadd, 1) := by decide +kernel
theorem dL_law_406 : decode cL_law 406 = .ok (.iaload, 1) := by decide +kernel
theorem dL_law_407 : decode cL_law 407 = .ok (.aload_n 0, 1) := by decide +kernel
theorem dL_law_408 : decode cL_law 408 = .ok (.iload_n 3, 1) := by decide +kernel
theorem dL_law_409 : decode cL_law 409 = .ok (.iconst 2, 1) := by decide +kernel
theorem dL_law_410 : decode cL_law 410 = .ok (.iadd, 1) := by decide +kernel
theorem dL_law_411 : decode cL_law 411 = .ok (.iaload, 1) := by decide +kernel
theorem dL_law_412 : decode cL_law 412 = .ok (.invokevirtual 47, 3) := by decide +kernel
theorem dL_law_415 : decode cL_law 415 = .ok (.if_icmp .eq 524, 3) := by decide +kernel
theorem dL_law_418 : decode cL_law 418 = .ok (.iconst 0, 1) := by decide +kernel
theorem dL_law_419 : decode cL_law 419 = .ok (.ireturn, 1) := by decide +kernel
theorem dL_law_420 : decode cL_law 420 = .ok (.aload_n 1, 1) := by decide +kernel
theorem dL_law_421 : decode cL_law 421 = .ok (.aload_n 0, 1) := by decide +kernel
theorem dL_law_422 : decode cL_law 422 = .ok (.iload_n 3, 1) := by decide +kernel
theorem dL_law_423 : decode cL_law 423 = .ok (.iconst 1, 1) := by decide +kernel
theorem dL_law_424 : decode cL_law 424 = .ok (.iadd, 1) := by decide +kernel
theorem dL_law_425 : decode cL_law 425 = .ok (.iaload, 1) := by decide +kernel
theorem dL_law_426 : decode cL_law 426 = .ok (.invokevirtual 48, 3) := by decide +kernel
theorem dL_law_429 : decode cL_law 429 = .ok (.aload_n 2, 1) := by decide +kernel
theorem dL_law_430 : decode cL_law 430 = .ok (.aload_n 0, 1) := by decide +kernel
theorem dL_law_431 : decode cL_law 431 = .ok (.iload_n 3, 1) := by decide +kernel
theorem dL_law_432 : decode cL_law 432 = .ok (.iconst 1, 1) := by decide +kernel
theorem dL_law_433 : decode cL_law 433 = .ok (.iadd, 1) := by decide +kernel
theorem dL_law_434 : decode cL_law 434 = .ok (.iaload, 1) := by decide +kernel
theorem dL_law_435 : decode cL_law 435 = .ok (.invokevirtual 51, 3) := by decide +kernel
theorem dL_law_438 : decode cL_law 438 = .ok (.if_icmp .eq 501, 3) := by decide +kernel
theorem dL_law_441 : decode cL_law 441 = .ok (.iconst 0, 1) := by decide +kernel
theorem dL_law_442 : decode cL_law 442 = .ok (.ireturn, 1) := by decide +kernel
theorem dL_law_443 : decode cL_law 443 = .ok (.aload_n 1, 1) := by decide +kernel
theorem dL_law_444 : decode cL_law 444 = .ok (.aload_n 0, 1) := by decide +kernel
theorem dL_law_445 : decode cL_law 445 = .ok (.iload_n 3, 1) := by decide +kernel
theorem dL_law_446 : decode cL_law 446 = .ok (.iconst 1, 1) := by decide +kernel
theorem dL_law_447 : decode cL_law 447 = .ok (.iadd, 1) := by decide +kernel
theorem dL_law_448 : decode cL_law 448 = .ok (.iaload, 1) := by decide +kernel
theorem dL_law_449 : decode cL_law 449 = .ok (.invokevirtual 52, 3) := by decide +kernel
theorem dL_law_452 : decode cL_law 452 = .ok (.aload_n 2, 1) := by decide +kernel
theorem dL_law_453 : decode cL_law 453 = .ok (.aload_n 0, 1) := by decide +kernel
theorem dL_law_454 : decode cL_law 454 = .ok (.iload_n 3, 1) := by decide +kernel
theorem dL_law_455 : decode cL_law 455 = .ok (.iconst 1, 1) := by decide +kernel
theorem dL_law_456 : decode cL_law 456 = .ok (.iadd, 1) := by decide +kernel
theorem dL_law_457 : decode cL_law 457 = .ok (.iaload, 1) := by decide +kernel
theorem dL_law_458 : decode cL_law 458 = .ok (.invokevirtual 55, 3) := by decide +kernel
theorem dL_law_461 : decode cL_law 461 = .ok (.if_icmp .eq 478, 3) := by decide +kernel
theorem dL_law_464 : decode cL_law 464 = .ok (.iconst 0, 1) := by decide +kernel
theorem dL_law_465 : decode cL_law 465 = .ok (.ireturn, 1) := by decide +kernel
theorem dL_law_466 : decode cL_law 466 = .ok (.aload_n 1, 1) := by decide +kernel
theorem dL_law_467 : decode cL_law 467 = .ok (.aload_n 0, 1) := by decide +kernel
theorem dL_law_468 : decode cL_law 468 = .ok (.iload_n 3, 1) := by decide +kernel
theorem dL_law_469 : decode cL_law 469 = .ok (.iconst 1, 1) := by decide +kernel
theorem dL_law_470 : decode cL_law 470 = .ok (.iadd, 1) := by decide +kernel
theorem dL_law_471 : decode cL_law 471 = .ok (.iaload, 1) := by decide +kernel
theorem dL_law_472 : decode cL_law 472 = .ok (.invokevirtual 56, 3) := by decide +kernel
theorem dL_law_475 : decode cL_law 475 = .ok (.aload_n 2, 1) := by decide +kernel
theorem dL_law_476 : decode cL_law 476 = .ok (.aload_n 0, 1) := by decide +kernel
theorem dL_law_477 : decode cL_law 477 = .ok (.iload_n 3, 1) := by decide +kernel
theorem dL_law_478 : decode cL_law 478 = .ok (.iconst 1, 1) := by decide +kernel
theorem dL_law_479 : decode cL_law 479 = .ok (.iadd, 1) := by decide +kernel
theorem dL_law_480 : decode cL_law 480 = .ok (.iaload, 1) := by decide +kernel
theorem dL_law_481 : decode cL_law 481 = .ok (.invokevirtual 59, 3) := by decide +kernel
theorem dL_law_484 : decode cL_law 484 = .ok (.if_icmp .eq 455, 3) := by decide +kernel
theorem dL_law_487 : decode cL_law 487 = .ok (.iconst 0, 1) := by decide +kernel
theorem dL_law_488 : decode cL_law 488 = .ok (.ireturn, 1) := by decide +kernel
theorem dL_law_489 : decode cL_law 489 = .ok (.aload_n 1, 1) := by decide +kernel
theorem dL_law_490 : decode cL_law 490 = .ok (.aload_n 0, 1) := by decide +kernel
theorem dL_law_491 : decode cL_law 491 = .ok (.iload_n 3, 1) := by decide +kernel
theorem dL_law_492 : decode cL_law 492 = .ok (.iconst 1, 1) := by decide +kernel
theorem dL_law_493 : decode cL_law 493 = .ok (.iadd, 1) := by decide +kernel
theorem dL_law_494 : decode cL_law 494 = .ok (.iaload, 1) := by decide +kernel
theorem dL_law_495 : decode cL_law 495 = .ok (.invokevirtual 60, 3) := by decide +kernel
theorem dL_law_498 : decode cL_law 498 = .ok (.aload_n 2, 1) := by decide +kernel
theorem dL_law_499 : decode cL_law 499 = .ok (.aload_n 0, 1) := by decide +kernel
theorem dL_law_500 : decode cL_law 500 = .ok (.iload_n 3, 1) := by decide +kernel
theorem dL_law_501 : decode cL_law 501 = .ok (.iconst 1, 1) := by decide +kernel
theorem dL_law_502 : decode cL_law 502 = .ok (.iadd, 1) := by decide +kernel
theorem dL_law_503 : decode cL_law 503 = .ok (.iaload, 1) := by decide +kernel
theorem dL_law_504 : decode cL_law 504 = .ok (.invokevirtual 63, 3) := by decide +kernel
theorem dL_law_507 : decode cL_law 507 = .ok (.if_icmp .eq 432, 3) := by decide +kernel
theorem dL_law_510 : decode cL_law 510 = .ok (.iconst 0, 1) := by decide +kernel
theorem dL_law_511 : decode cL_law 511 = .ok (.ireturn, 1) := by decide +kernel
theorem dL_law_512 : decode cL_law 512 = .ok (.aload_n 1, 1) := by decide +kernel
theorem dL_law_513 : decode cL_law 513 = .ok (.aload_n 0, 1) := by decide +kernel
theorem dL_law_514 : decode cL_law 514 = .ok (.iload_n 3, 1) := by decide +kernel
theorem dL_law_515 : decode cL_law 515 = .ok (.iconst 1, 1) := by decide +kernel
theorem dL_law_516 : decode cL_law 516 = .ok (.iadd, 1) := by decide +kernel
theorem dL_law_517 : decode cL_law 517 = .ok (.iaload, 1) := by decide +kernel
theorem dL_law_518 : decode cL_law 518 = .ok (.i2c, 1) := by decide +kernel
theorem dL_law_519 : decode cL_law 519 = .ok (.invokevirtual 64, 3) := by decide +kernel
theorem dL_law_522 : decode cL_law 522 = .ok (.aload_n 2, 1) := by decide +kernel
theorem dL_law_523 : decode cL_law 523 = .ok (.aload_n 0, 1) := by decide +kernel
theorem dL_law_524 : decode cL_law 524 = .ok (.iload_n 3, 1) := by decide +kernel
theorem dL_law_525 : decode cL_law 525 = .ok (.iconst 1, 1) := by decide +kernel
theorem dL_law_526 : decode cL_law 526 = .ok (.iadd, 1) := by decide +kernel
theorem dL_law_527 : decode cL_law 527 = .ok (.iaload, 1) := by decide +kernel
theorem dL_law_528 : decode cL_law 528 = .ok (.i2c, 1) := by decide +kernel
theorem dL_law_529 : decode cL_law 529 = .ok (.invokevirtual 68, 3) := by decide +kernel
theorem dL_law_532 : decode cL_law 532 = .ok (.if_icmp .eq 407, 3) := by decide +kernel
theorem dL_law_535 : decode cL_law 535 = .ok (.iconst 0, 1) := by decide +kernel
theorem dL_law_536 : decode cL_law 536 = .ok (.ireturn, 1) := by decide +kernel
theorem dL_law_537 : decode cL_law 537 = .ok (.aload_n 1, 1) := by decide +kernel
theorem dL_law_538 : decode cL_law 538 = .ok (.invokevirtual 69, 3) := by decide +kernel
theorem dL_law_541 : decode cL_law 541 = .ok (.aload_n 2, 1) := by decide +kernel
theorem dL_law_542 : decode cL_law 542 = .ok (.invokevirtual 73, 3) := by decide +kernel
theorem dL_law_545 : decode cL_law 545 = .ok (.if_icmp .eq 394, 3) := by decide +kernel
theorem dL_law_548 : decode cL_law 548 = .ok (.iconst 0, 1) := by decide +kernel
theorem dL_law_549 : decode cL_law 549 = .ok (.ireturn, 1) := by decide +kernel
theorem dL_law_550 : decode cL_law 550 = .ok (.aload_n 1, 1) := by decide +kernel
theorem dL_law_551 : decode cL_law 551 = .ok (.invokevirtual 74, 3) := by decide +kernel
theorem dL_law_554 : decode cL_law 554 = .ok (.aload_n 2, 1) := by decide +kernel
theorem dL_law_555 : decode cL_law 555 = .ok (.invokevirtual 77, 3) := by decide +kernel
theorem dL_law_558 : decode cL_law 558 = .ok (.if_icmp .eq 381, 3) := by decide +kernel
theorem dL_law_561 : decode cL_law 561 = .ok (.iconst 0, 1) := by decide +kernel
theorem dL_law_562 : decode cL_law 562 = .ok (.ireturn, 1) := by decide +kernel
theorem dL_law_563 : decode cL_law 563 = .ok (.aload_n 1, 1) := by decide +kernel
theorem dL_law_564 : decode cL_law 564 = .ok (.invokevirtual 78, 3) := by decide +kernel
theorem dL_law_567 : decode cL_law 567 = .ok (.aload_n 2, 1) := by decide +kernel
theorem dL_law_568 : decode cL_law 568 = .ok (.invokevirtual 81, 3) := by decide +kernel
theorem dL_law_571 : decode cL_law 571 = .ok (.if_icmp .eq 368, 3) := by decide +kernel
theorem dL_law_574 : decode cL_law 574 = .ok (.iconst 0, 1) := by decide +kernel
theorem dL_law_575 : decode cL_law 575 = .ok (.ireturn, 1) := by decide +kernel
theorem dL_law_576 : decode cL_law 576 = .ok (.aload_n 1, 1) := by decide +kernel
theorem dL_law_577 : decode cL_law 577 = .ok (.aload_n 0, 1) := by decide +kernel
theorem dL_law_578 : decode cL_law 578 = .ok (.iload_n 3, 1) := by decide +kernel
theorem dL_law_579 : decode cL_law 579 = .ok (.iconst 1, 1) := by decide +kernel
theorem dL_law_580 : decode cL_law 580 = .ok (.iadd, 1) := by decide +kernel
theorem dL_law_581 : decode cL_law 581 = .ok (.iaload, 1) := by decide +kernel
theorem dL_law_582 : decode cL_law 582 = .ok (.invokevirtual 82, 3) := by decide +kernel
theorem dL_law_585 : decode cL_law 585 = .ok (.aload_n 2, 1) := by decide +kernel
theorem dL_law_586 : decode cL_law 586 = .ok (.aload_n 0, 1) := by decide +kernel
theorem dL_law_587 : decode cL_law 587 = .ok (.iload_n 3, 1) := by decide +kernel
theorem dL_law_588 : decode cL_law 588 = .ok (.iconst 1, 1) := by decide +kernel
theorem dL_law_589 : decode cL_law 589 = .ok (.iadd, 1) := by decide +kernel
theorem dL_law_590 : decode cL_law 590 = .ok (.iaload, 1) := by decide +kernel
theorem dL_law_591 : decode cL_law 591 = .ok (.invokevirtual 85, 3) := by decide +kernel
theorem dL_law_594 : decode cL_law 594 = .ok (.if_icmp .eq 345, 3) := by decide +kernel
theorem dL_law_597 : decode cL_law 597 = .ok (.iconst 0, 1) := by decide +kernel
theorem dL_law_598 : decode cL_law 598 = .ok (.ireturn, 1) := by decide +kernel
theorem dL_law_599 : decode cL_law 599 = .ok (.aload_n 1, 1) := by decide +kernel
theorem dL_law_600 : decode cL_law 600 = .ok (.aload_n 0, 1) := by decide +kernel
theorem dL_law_601 : decode cL_law 601 = .ok (.iload_n 3, 1) := by decide +kernel
theorem dL_law_602 : decode cL_law 602 = .ok (.iconst 1, 1) := by decide +kernel
theorem dL_law_603 : decode cL_law 603 = .ok (.iadd, 1) := by decide +kernel
theorem dL_law_604 : decode cL_law 604 = .ok (.iaload, 1) := by decide +kernel
theorem dL_law_605 : decode cL_law 605 = .ok (.invokevirtual 86, 3) := by decide +kernel
theorem dL_law_608 : decode cL_law 608 = .ok (.aload_n 2, 1) := by decide +kernel
theorem dL_law_609 : decode cL_law 609 = .ok (.aload_n 0, 1) := by decide +kernel
theorem dL_law_610 : decode cL_law 610 = .ok (.iload_n 3, 1) := by decide +kernel
theorem dL_law_611 : decode cL_law 611 = .ok (.iconst 1, 1) := by decide +kernel
theorem dL_law_612 : decode cL_law 612 = .ok (.iadd, 1) := by decide +kernel
theorem dL_law_613 : decode cL_law 613 = .ok (.iaload, 1) := by decide +kernel
theorem dL_law_614 : decode cL_law 614 = .ok (.invokevirtual 89, 3) := by decide +kernel
theorem dL_law_617 : decode cL_law 617 = .ok (.if_icmp .eq 322, 3) := by decide +kernel
theorem dL_law_620 : decode cL_law 620 = .ok (.iconst 0, 1) := by decide +kernel
theorem dL_law_621 : decode cL_law 621 = .ok (.ireturn, 1) := by decide +kernel
theorem dL_law_622 : decode cL_law 622 = .ok (.aload_n 1, 1) := by decide +kernel
theorem dL_law_623 : decode cL_law 623 = .ok (.aload_n 0, 1) := by decide +kernel
theorem dL_law_624 : decode cL_law 624 = .ok (.iload_n 3, 1) := by decide +kernel
theorem dL_law_625 : decode cL_law 625 = .ok (.iconst 1, 1) := by decide +kernel
theorem dL_law_626 : decode cL_law 626 = .ok (.iadd, 1) := by decide +kernel
theorem dL_law_627 : decode cL_law 627 = .ok (.iaload, 1) := by decide +kernel
theorem dL_law_628 : decode cL_law 628 = .ok (.aload_n 0, 1) := by decide +kernel
theorem dL_law_629 : decode cL_law 629 = .ok (.iload_n 3, 1) := by decide +kernel
theorem dL_law_630 : decode cL_law 630 = .ok (.iconst 2, 1) := by decide +kernel
theorem dL_law_631 : decode cL_law 631 = .ok (.iadd, 1) := by decide +kernel
theorem dL_law_632 : decode cL_law 632 = .ok (.iaload, 1) := by decide +kernel
theorem dL_law_633 : decode cL_law 633 = .ok (.invokevirtual 90, 3) := by decide +kernel
theorem dL_law_636 : decode cL_law 636 = .ok (.aload_n 2, 1) := by decide +kernel
theorem dL_law_637 : decode cL_law 637 = .ok (.aload_n 0, 1) := by decide +kernel
theorem dL_law_638 : decode cL_law 638 = .ok (.iload_n 3, 1) := by decide +kernel
theorem dL_law_639 : decode cL_law 639 = .ok (.iconst 1, 1) := by decide +kernel
theorem dL_law_640 : decode cL_law 640 = .ok (.iadd, 1) := by decide +kernel
theorem dL_law_641 : decode cL_law 641 = .ok (.iaload, 1) := by decide +kernel
theorem dL_law_642 : decode cL_law 642 = .ok (.aload_n 0, 1) := by decide +kernel
theorem dL_law_643 : decode cL_law 643 = .ok (.iload_n 3, 1) := by decide +kernel
theorem dL_law_644 : decode cL_law 644 = .ok (.iconst 2, 1) := by decide +kernel
theorem dL_law_645 : decode cL_law 645 = .ok (.iadd, 1) := by decide +kernel
theorem dL_law_646 : decode cL_law 646 = .ok (.iaload, 1) := by decide +kernel
theorem dL_law_647 : decode cL_law 647 = .ok (.invokevirtual 93, 3) := by decide +kernel
theorem dL_law_650 : decode cL_law 650 = .ok (.if_icmp .eq 289, 3) := by decide +kernel
theorem dL_law_653 : decode cL_law 653 = .ok (.iconst 0, 1) := by decide +kernel
theorem dL_law_654 : decode cL_law 654 = .ok (.ireturn, 1) := by decide +kernel
theorem dL_law_655 : decode cL_law 655 = .ok (.aload_n 1, 1) := by decide +kernel
theorem dL_law_656 : decode cL_law 656 = .ok (.aload_n 0, 1) := by decide +kernel
theorem dL_law_657 : decode cL_law 657 = .ok (.iload_n 3, 1) := by decide +kernel
theorem dL_law_658 : decode cL_law 658 = .ok (.iconst 1, 1) := by decide +kernel
theorem dL_law_659 : decode cL_law 659 = .ok (.iadd, 1) := by decide +kernel
theorem dL_law_660 : decode cL_law 660 = .ok (.iaload, 1) := by decide +kernel
theorem dL_law_661 : decode cL_law 661 = .ok (.aload_n 0, 1) := by decide +kernel
theorem dL_law_662 : decode cL_law 662 = .ok (.iload_n 3, 1) := by decide +kernel
theorem dL_law_663 : decode cL_law 663 = .ok (.iconst 2, 1) := by decide +kernel
theorem dL_law_664 : decode cL_law 664 = .ok (.iadd, 1) := by decide +kernel
theorem dL_law_665 : decode cL_law 665 = .ok (.iaload, 1) := by decide +kernel
theorem dL_law_666 : decode cL_law 666 = .ok (.aload_n 0, 1) := by decide +kernel
theorem dL_law_667 : decode cL_law 667 = .ok (.iload_n 3, 1) := by decide +kernel
theorem dL_law_668 : decode cL_law 668 = .ok (.iconst 3, 1) := by decide +kernel
theorem dL_law_669 : decode cL_law 669 = .ok (.iadd, 1) := by decide +kernel
theorem dL_law_670 : decode cL_law 670 = .ok (.iaload, 1) := by decide +kernel
theorem dL_law_671 : decode cL_law 671 = .ok (.invokevirtual 94, 3) := by decide +kernel
theorem dL_law_674 : decode cL_law 674 = .ok (.aload_n 2, 1) := by decide +kernel
theorem dL_law_675 : decode cL_law 675 = .ok (.aload_n 0, 1) := by decide +kernel
theorem dL_law_676 : decode cL_law 676 = .ok (.iload_n 3, 1) := by decide +kernel
theorem dL_law_677 : decode cL_law 677 = .ok (.iconst 1, 1) := by decide +kernel
theorem dL_law_678 : decode cL_law 678 = .ok (.iadd, 1) := by decide +kernel
theorem dL_law_679 : decode cL_law 679 = .ok (.iaload, 1) := by decide +kernel
theorem dL_law_680 : decode cL_law 680 = .ok (.aload_n 0, 1) := by decide +kernel
theorem dL_law_681 : decode cL_law 681 = .ok (.iload_n 3, 1) := by decide +kernel
theorem dL_law_682 : decode cL_law 682 = .ok (.iconst 2, 1) := by decide +kernel
theorem dL_law_683 : decode cL_law 683 = .ok (.iadd, 1) := by decide +kernel
theorem dL_law_684 : decode cL_law 684 = .ok (.iaload, 1) := by decide +kernel
theorem dL_law_685 : decode cL_law 685 = .ok (.aload_n 0, 1) := by decide +kernel
theorem dL_law_686 : decode cL_law 686 = .ok (.iload_n 3, 1) := by decide +kernel
theorem dL_law_687 : decode cL_law 687 = .ok (.iconst 3, 1) := by decide +kernel
theorem dL_law_688 : decode cL_law 688 = .ok (.iadd, 1) := by decide +kernel
theorem dL_law_689 : decode cL_law 689 = .ok (.iaload, 1) := by decide +kernel
theorem dL_law_690 : decode cL_law 690 = .ok (.invokevirtual 97, 3) := by decide +kernel
theorem dL_law_693 : decode cL_law 693 = .ok (.if_icmp .eq 246, 3) := by decide +kernel
theorem dL_law_696 : decode cL_law 696 = .ok (.iconst 0, 1) := by decide +kernel
theorem dL_law_697 : decode cL_law 697 = .ok (.ireturn, 1) := by decide +kernel
theorem dL_law_698 : decode cL_law 698 = .ok (.aload_n 1, 1) := by decide +kernel
theorem dL_law_699 : decode cL_law 699 = .ok (.aload_n 0, 1) := by decide +kernel
theorem dL_law_700 : decode cL_law 700 = .ok (.iload_n 3, 1) := by decide +kernel
theorem dL_law_701 : decode cL_law 701 = .ok (.iconst 1, 1) := by decide +kernel
theorem dL_law_702 : decode cL_law 702 = .ok (.iadd, 1) := by decide +kernel
theorem dL_law_703 : decode cL_law 703 = .ok (.iaload, 1) := by decide +kernel
theorem dL_law_704 : decode cL_law 704 = .ok (.aload_n 0, 1) := by decide +kernel
theorem dL_law_705 : decode cL_law 705 = .ok (.iload_n 3, 1) := by decide +kernel
theorem dL_law_706 : decode cL_law 706 = .ok (.iconst 2, 1) := by decide +kernel
theorem dL_law_707 : decode cL_law 707 = .ok (.iadd, 1) := by decide +kernel
theorem dL_law_708 : decode cL_law 708 = .ok (.iaload, 1) := by decide +kernel
theorem dL_law_709 : decode cL_law 709 = .ok (.invokevirtual 98, 3) := by decide +kernel
theorem dL_law_712 : decode cL_law 712 = .ok (.aload_n 2, 1) := by decide +kernel
theorem dL_law_713 : decode cL_law 713 = .ok (.aload_n 0, 1) := by decide +kernel
theorem dL_law_714 : decode cL_law 714 = .ok (.iload_n 3, 1) := by decide +kernel
theorem dL_law_715 : decode cL_law 715 = .ok (.iconst 1, 1) := by decide +kernel
theorem dL_law_716 : decode cL_law 716 = .ok (.iadd, 1) := by decide +kernel
theorem dL_law_717 : decode cL_law 717 = .ok (.iaload, 1) := by decide +kernel
theorem dL_law_718 : decode cL_law 718 = .ok (.aload_n 0, 1) := by decide +kernel
theorem dL_law_719 : decode cL_law 719 = .ok (.iload_n 3, 1) := by decide +kernel
theorem dL_law_720 : decode cL_law 720 = .ok (.iconst 2, 1) := by decide +kernel
theorem dL_law_721 : decode cL_law 721 = .ok (.iadd, 1) := by decide +kernel
theorem dL_law_722 : decode cL_law 722 = .ok (.iaload, 1) := by decide +kernel
theorem dL_law_723 : decode cL_law 723 = .ok (.invokevirtual 101, 3) := by decide +kernel
theorem dL_law_726 : decode cL_law 726 = .ok (.if_icmp .eq 213, 3) := by decide +kernel
theorem dL_law_729 : decode cL_law 729 = .ok (.iconst 0, 1) := by decide +kernel
theorem dL_law_730 : decode cL_law 730 = .ok (.ireturn, 1) := by decide +kernel
theorem dL_law_731 : decode cL_law 731 = .ok (.aload_n 1, 1) := by decide +kernel
theorem dL_law_732 : decode cL_law 732 = .ok (.aload_n 0, 1) := by decide +kernel
theorem dL_law_733 : decode cL_law 733 = .ok (.iload_n 3, 1) := by decide +kernel
theorem dL_law_734 : decode cL_law 734 = .ok (.iconst 1, 1) := by decide +kernel
theorem dL_law_735 : decode cL_law 735 = .ok (.iadd, 1) := by decide +kernel
theorem dL_law_736 : decode cL_law 736 = .ok (.iaload, 1) := by decide +kernel
theorem dL_law_737 : decode cL_law 737 = .ok (.invokevirtual 102, 3) := by decide +kernel
theorem dL_law_740 : decode cL_law 740 = .ok (.aload_n 2, 1) := by decide +kernel
theorem dL_law_741 : decode cL_law 741 = .ok (.aload_n 0, 1) := by decide +kernel
theorem dL_law_742 : decode cL_law 742 = .ok (.iload_n 3, 1) := by decide +kernel
theorem dL_law_743 : decode cL_law 743 = .ok (.iconst 1, 1) := by decide +kernel
theorem dL_law_744 : decode cL_law 744 = .ok (.iadd, 1) := by decide +kernel
theorem dL_law_745 : decode cL_law 745 = .ok (.iaload, 1) := by decide +kernel
theorem dL_law_746 : decode cL_law 746 = .ok (.invokevirtual 105, 3) := by decide +kernel
theorem dL_law_749 : decode cL_law 749 = .ok (.if_icmp .eq 190, 3) := by decide +kernel
theorem dL_law_752 : decode cL_law 752 = .ok (.iconst 0, 1) := by decide +kernel
theorem dL_law_753 : decode cL_law 753 = .ok (.ireturn, 1) := by decide +kernel
theorem dL_law_754 : decode cL_law 754 = .ok (.aload_n 1, 1) := by decide +kernel
theorem dL_law_755 : decode cL_law 755 = .ok (.aload_n 0, 1) := by decide +kernel
theorem dL_law_756 : decode cL_law 756 = .ok (.iload_n 3, 1) := by decide +kernel
theorem dL_law_757 : decode cL_law 757 = .ok (.iconst 1, 1) := by decide +kernel
theorem dL_law_758 : decode cL_law 758 = .ok (.iadd, 1) := by decide +kernel
theorem dL_law_759 : decode cL_law 759 = .ok (.iaload, 1) := by decide +kernel
theorem dL_law_760 : decode cL_law 760 = .ok (.invokevirtual 106, 3) := by decide +kernel
theorem dL_law_763 : decode cL_law 763 = .ok (.f2d, 1) := by decide +kernel
theorem dL_law_764 : decode cL_law 764 = .ok (.dstore 4, 2) := by decide +kernel
theorem dL_law_766 : decode cL_law 766 = .ok (.aload_n 2, 1) := by decide +kernel
theorem dL_law_767 : decode cL_law 767 = .ok (.aload_n 0, 1) := by decide +kernel
theorem dL_law_768 : decode cL_law 768 = .ok (.iload_n 3, 1) := by decide +kernel
theorem dL_law_769 : decode cL_law 769 = .ok (.iconst 1, 1) := by decide +kernel
theorem dL_law_770 : decode cL_law 770 = .ok (.iadd, 1) := by decide +kernel
theorem dL_law_771 : decode cL_law 771 = .ok (.iaload, 1) := by decide +kernel
theorem dL_law_772 : decode cL_law 772 = .ok (.invokevirtual 110, 3) := by decide +kernel
theorem dL_law_775 : decode cL_law 775 = .ok (.f2d, 1) := by decide +kernel
theorem dL_law_776 : decode cL_law 776 = .ok (.dstore 6, 2) := by decide +kernel
theorem dL_law_778 : decode cL_law 778 = .ok (.dload 4, 2) := by decide +kernel
theorem dL_law_780 : decode cL_law 780 = .ok (.dload 6, 2) := by decide +kernel
theorem dL_law_782 : decode cL_law 782 = .ok (.dcmp .l, 1) := by decide +kernel
theorem dL_law_783 : decode cL_law 783 = .ok (.ifCond .eq 21, 3) := by decide +kernel
theorem dL_law_786 : decode cL_law 786 = .ok (.dload 4, 2) := by decide +kernel
theorem dL_law_788 : decode cL_law 788 = .ok (.dload 4, 2) := by decide +kernel
theorem dL_law_790 : decode cL_law 790 = .ok (.dcmp .l, 1) := by decide +kernel
theorem dL_law_791 : decode cL_law 791 = .ok (.ifCond .eq 11, 3) := by decide +kernel
theorem dL_law_794 : decode cL_law 794 = .ok (.dload 6, 2) := by decide +kernel
theorem dL_law_796 : decode cL_law 796 = .ok (.dload 6, 2) := by decide +kernel
theorem dL_law_798 : decode cL_law 798 = .ok (.dcmp .l, 1) := by decide +kernel
theorem dL_law_799 : decode cL_law 799 = .ok (.ifCond .ne 5, 3) := by decide +kernel
theorem dL_law_802 : decode cL_law 802 = .ok (.iconst 0, 1) := by decide +kernel
theorem dL_law_803 : decode cL_law 803 = .ok (.ireturn, 1) := by decide +kernel
theorem dL_law_804 : decode cL_law 804 = .ok (.goto 135, 3) := by decide +kernel
theorem dL_law_807 : decode cL_law 807 = .ok (.aload_n 1, 1) := by decide +kernel
theorem dL_law_808 : decode cL_law 808 = .ok (.aload_n 0, 1) := by decide +kernel
theorem dL_law_809 : decode cL_law 809 = .ok (.iload_n 3, 1) := by decide +kernel
theorem dL_law_810 : decode cL_law 810 = .ok (.iconst 1, 1) := by decide +kernel
theorem dL_law_811 : decode cL_law 811 = .ok (.iadd, 1) := by decide +kernel
theorem dL_law_812 : decode cL_law 812 = .ok (.iaload, 1) := by decide +kernel
theorem dL_law_813 : decode cL_law 813 = .ok (.invokevirtual 111, 3) := by decide +kernel
theorem dL_law_816 : decode cL_law 816 = .ok (.aload_n 2, 1) := by decide +kernel
theorem dL_law_817 : decode cL_law 817 = .ok (.aload_n 0, 1) := by decide +kernel
theorem dL_law_818 : decode cL_law 818 = .ok (.iload_n 3, 1) := by decide +kernel
theorem dL_law_819 : decode cL_law 819 = .ok (.iconst 1, 1) := by decide +kernel
theorem dL_law_820 : decode cL_law 820 = .ok (.iadd, 1) := by decide +kernel
theorem dL_law_821 : decode cL_law 821 = .ok (.iaload, 1) := by decide +kernel
theorem dL_law_822 : decode cL_law 822 = .ok (.invokevirtual 114, 3) := by decide +kernel
theorem dL_law_825 : decode cL_law 825 = .ok (.if_icmp .eq 114, 3) := by decide +kernel
theorem dL_law_828 : decode cL_law 828 = .ok (.iconst 0, 1) := by decide +kernel
theorem dL_law_829 : decode cL_law 829 = .ok (.ireturn, 1) := by decide +kernel
theorem dL_law_830 : decode cL_law 830 = .ok (.aload_n 1, 1) := by decide +kernel
theorem dL_law_831 : decode cL_law 831 = .ok (.aload_n 0, 1) := by decide +kernel
theorem dL_law_832 : decode cL_law 832 = .ok (.iload_n 3, 1) := by decide +kernel
theorem dL_law_833 : decode cL_law 833 = .ok (.iconst 1, 1) := by decide +kernel
theorem dL_law_834 : decode cL_law 834 = .ok (.iadd, 1) := by decide +kernel
theorem dL_law_835 : decode cL_law 835 = .ok (.iaload, 1) := by decide +kernel
theorem dL_law_836 : decode cL_law 836 = .ok (.invokevirtual 115, 3) := by decide +kernel
theorem dL_law_839 : decode cL_law 839 = .ok (.f2d, 1) := by decide +kernel
theorem dL_law_840 : decode cL_law 840 = .ok (.dstore 4, 2) := by decide +kernel
theorem dL_law_842 : decode cL_law 842 = .ok (.aload_n 2, 1) := by decide +kernel
theorem dL_law_843 : decode cL_law 843 = .ok (.aload_n 0, 1) := by decide +kernel
theorem dL_law_844 : decode cL_law 844 = .ok (.iload_n 3, 1) := by decide +kernel
theorem dL_law_845 : decode cL_law 845 = .ok (.iconst 1, 1) := by decide +kernel
theorem dL_law_846 : decode cL_law 846 = .ok (.iadd, 1) := by decide +kernel
theorem dL_law_847 : decode cL_law 847 = .ok (.iaload, 1) := by decide +kernel
theorem dL_law_848 : decode cL_law 848 = .ok (.invokevirtual 118, 3) := by decide +kernel
theorem dL_law_851 : decode cL_law 851 = .ok (.f2d, 1) := by decide +kernel
theorem dL_law_852 : decode cL_law 852 = .ok (.dstore 6, 2) := by decide +kernel
theorem dL_law_854 : decode cL_law 854 = .ok (.dload 4, 2) := by decide +kernel
theorem dL_law_856 : decode cL_law 856 = .ok (.dload 6, 2) := by decide +kernel
theorem dL_law_858 : decode cL_law 858 = .ok (.dcmp .l, 1) := by decide +kernel
theorem dL_law_859 : decode cL_law 859 = .ok (.ifCond .eq 21, 3) := by decide +kernel
theorem dL_law_862 : decode cL_law 862 = .ok (.dload 4, 2) := by decide +kernel
theorem dL_law_864 : decode cL_law 864 = .ok (.dload 4, 2) := by decide +kernel
theorem dL_law_866 : decode cL_law 866 = .ok (.dcmp .l, 1) := by decide +kernel
theorem dL_law_867 : decode cL_law 867 = .ok (.ifCond .eq 11, 3) := by decide +kernel
theorem dL_law_870 : decode cL_law 870 = .ok (.dload 6, 2) := by decide +kernel
theorem dL_law_872 : decode cL_law 872 = .ok (.dload 6, 2) := by decide +kernel
theorem dL_law_874 : decode cL_law 874 = .ok (.dcmp .l, 1) := by decide +kernel
theorem dL_law_875 : decode cL_law 875 = .ok (.ifCond .ne 5, 3) := by decide +kernel
theorem dL_law_878 : decode cL_law 878 = .ok (.iconst 0, 1) := by decide +kernel
theorem dL_law_879 : decode cL_law 879 = .ok (.ireturn, 1) := by decide +kernel
theorem dL_law_880 : decode cL_law 880 = .ok (.goto 59, 3) := by decide +kernel
theorem dL_law_883 : decode cL_law 883 = .ok (.aload_n 1, 1) := by decide +kernel
theorem dL_law_884 : decode cL_law 884 = .ok (.aload_n 0, 1) := by decide +kernel
theorem dL_law_885 : decode cL_law 885 = .ok (.iload_n 3, 1) := by decide +kernel
theorem dL_law_886 : decode cL_law 886 = .ok (.iconst 1, 1) := by decide +kernel
theorem dL_law_887 : decode cL_law 887 = .ok (.iadd, 1) := by decide +kernel
theorem dL_law_888 : decode cL_law 888 = .ok (.iaload, 1) := by decide +kernel
theorem dL_law_889 : decode cL_law 889 = .ok (.invokevirtual 119, 3) := by decide +kernel
theorem dL_law_892 : decode cL_law 892 = .ok (.aload_n 2, 1) := by decide +kernel
theorem dL_law_893 : decode cL_law 893 = .ok (.aload_n 0, 1) := by decide +kernel
theorem dL_law_894 : decode cL_law 894 = .ok (.iload_n 3, 1) := by decide +kernel
theorem dL_law_895 : decode cL_law 895 = .ok (.iconst 1, 1) := by decide +kernel
theorem dL_law_896 : decode cL_law 896 = .ok (.iadd, 1) := by decide +kernel
theorem dL_law_897 : decode cL_law 897 = .ok (.iaload, 1) := by decide +kernel
theorem dL_law_898 : decode cL_law 898 = .ok (.invokevirtual 122, 3) := by decide +kernel
theorem dL_law_901 : decode cL_law 901 = .ok (.if_icmp .eq 38, 3) := by decide +kernel
theorem dL_law_904 : decode cL_law 904 = .ok (.iconst 0, 1) := by decide +kernel
theorem dL_law_905 : decode cL_law 905 = .ok (.ireturn, 1) := by decide +kernel
theorem dL_law_906 : decode cL_law 906 = .ok (.aload_n 1, 1) := by decide +kernel
theorem dL_law_907 : decode cL_law 907 = .ok (.aload_n 0, 1) := by decide +kernel
theorem dL_law_908 : decode cL_law 908 = .ok (.iload_n 3, 1) := by decide +kernel
theorem dL_law_909 : decode cL_law 909 = .ok (.iconst 1, 1) := by decide +kernel
theorem dL_law_910 : decode cL_law 910 = .ok (.iadd, 1) := by decide +kernel
theorem dL_law_911 : decode cL_law 911 = .ok (.iaload, 1) := by decide +kernel
theorem dL_law_912 : decode cL_law 912 = .ok (.aload_n 0, 1) := by decide +kernel
theorem dL_law_913 : decode cL_law 913 = .ok (.iload_n 3, 1) := by decide +kernel
theorem dL_law_914 : decode cL_law 914 = .ok (.iconst 2, 1) := by decide +kernel
theorem dL_law_915 : decode cL_law 915 = .ok (.iadd, 1) := by decide +kernel
theorem dL_law_916 : decode cL_law 916 = .ok (.iaload, 1) := by decide +kernel
theorem dL_law_917 : decode cL_law 917 = .ok (.invokevirtual 123, 3) := by decide +kernel
theorem dL_law_920 : decode cL_law 920 = .ok (.aload_n 2, 1) := by decide +kernel
theorem dL_law_921 : decode cL_law 921 = .ok (.aload_n 0, 1) := by decide +kernel
theorem dL_law_922 : decode cL_law 922 = .ok (.iload_n 3, 1) := by decide +kernel
theorem dL_law_923 : decode cL_law 923 = .ok (.iconst 1, 1) := by decide +kernel
theorem dL_law_924 : decode cL_law 924 = .ok (.iadd, 1) := by decide +kernel
theorem dL_law_925 : decode cL_law 925 = .ok (.iaload, 1) := by decide +kernel
theorem dL_law_926 : decode cL_law 926 = .ok (.aload_n 0, 1) := by decide +kernel
theorem dL_law_927 : decode cL_law 927 = .ok (.iload_n 3, 1) := by decide +kernel
theorem dL_law_928 : decode cL_law 928 = .ok (.iconst 2, 1) := by decide +kernel
theorem dL_law_929 : decode cL_law 929 = .ok (.iadd, 1) := by decide +kernel
theorem dL_law_930 : decode cL_law 930 = .ok (.iaload, 1) := by decide +kernel
theorem dL_law_931 : decode cL_law 931 = .ok (.invokevirtual 126, 3) := by decide +kernel
theorem dL_law_934 : decode cL_law 934 = .ok (.if_icmp .eq 5, 3) := by decide +kernel
theorem dL_law_937 : decode cL_law 937 = .ok (.iconst 0, 1) := by decide +kernel
theorem dL_law_938 : decode cL_law 938 = .ok (.ireturn, 1) := by decide +kernel
theorem dL_law_939 : decode cL_law 939 = .ok (.iinc 3 4, 3) := by decide +kernel
theorem dL_law_942 : decode cL_law 942 = .ok (.goto (-924), 3) := by decide +kernel
theorem dL_law_945 : decode cL_law 945 = .ok (.iconst 1, 1) := by decide +kernel
theorem dL_law_946 : decode cL_law 946 = .ok (.ireturn, 1) := by decide +kernel
abbrev vwCl : List vw_C := [(RX0, TX0, 9), (RX1, TX1, 3), (RX2, TX2, 2), (RX3, TX3, 13), (RX4, TX4, 4), (RX5, TX5, 5), (RX6, TX6, 13)]
end
section
set_option maxRecDepth 20000 in
theorem wsL_law_r1_g : GoodIn lw_tbl wsL_law_r1 := goodIn_p wsL_law_r1 [40, 43] (by decide +kernel) (by decide +kernel)
set_option maxRecDepth 20000 in
theorem wsL_law_r2_g : GoodIn lw_tbl wsL_law_r2 := goodIn_p wsL_law_r2 [48] (by decide +kernel) (by decide +kernel)
set_option maxRecDepth 20000 in
theorem wsL_law_r3_g : GoodIn lw_tbl wsL_law_r3 := goodIn_p wsL_law_r3 [64, 69, 73, 174] (by decide +kernel) (by decide +kernel)
set_option maxRecDepth 20000 in
theorem wsL_law_r4_g : GoodIn lw_tbl wsL_law_r4 := goodIn_p wsL_law_r4 [196, 218, 531] (by decide +kernel) (by decide +kernel)
set_option maxRecDepth 20000 in
theorem wsL_law_r5_g : GoodIn lw_tbl wsL_law_r5 := goodIn_p wsL_law_r5 [537, 541, 545] (by decide +kernel) (by decide +kernel)
set_option maxRecDepth 20000 in
theorem wsL_law_r6_g : GoodIn lw_tbl wsL_law_r6 := goodIn_p wsL_law_r6 [249, 252, 256, 271, 260] (by decide +kernel) (by decide +kernel)
set_option maxRecDepth 20000 in
theorem wsL_law_r7_g : GoodIn lw_tbl wsL_law_r7 := goodIn_p wsL_law_r7 [264, 275, 280] (by decide +kernel) (by decide +kernel)
set_option maxRecDepth 20000 in
theorem wsL_law_r8_g : GoodIn lw_tbl wsL_law_r8 := goodIn_p wsL_law_r8 [614, 598, 606, 618, 610, 284] (by decide +kernel) (by decide +kernel)
set_option maxRecDepth 20000 in
theorem wsL_law_r9_g : GoodIn lw_tbl wsL_law_r9 := goodIn_p wsL_law_r9 [288, 293, 297, 301, 622, 626] (by decide +kernel) (by decide +kernel)
set_option maxRecDepth 20000 in
theorem wsL_law_r10_g : GoodIn lw_tbl wsL_law_r10 := goodIn_p wsL_law_r10 [630, 634, 638, 305, 309, 313] (by decide +kernel) (by decide +kernel)
set_option maxRecDepth 20000 in
theorem wsL_law_r11_g : GoodIn lw_tbl wsL_law_r11 := goodIn_p wsL_law_r11 [642, 646, 317, 650, 321] (by decide +kernel) (by decide +kernel)
set_option maxRecDepth 20000 in
theorem wsL_law_r12_g : GoodIn lw_tbl wsL_law_r12 := goodIn_p wsL_law_r12 [654, 325, 658, 329, 333] (by decide +kernel) (by decide +kernel)
set_option maxRecDepth 20000 in
theorem wsL_law_r13_g : GoodIn lw_tbl wsL_law_r13 := goodIn_p wsL_law_r13 [662, 666, 337, 670, 345] (by decide +kernel) (by decide +kernel)
set_option maxRecDepth 20000 in
theorem wsL_law_r14_g : GoodIn lw_tbl wsL_law_r14 := goodIn_p wsL_law_r14 [348, 675, 679, 356, 683] (by decide +kernel) (by decide +kernel)
set_option maxRecDepth 20000 in
theorem wsL_law_r15_g : GoodIn lw_tbl wsL_law_r15 := goodIn_p wsL_law_r15 [360, 364, 368, 372, 376] (by decide +kernel) (by decide +kernel)
set_option maxRecDepth 20000 in
theorem wsL_law_r16_g : GoodIn lw_tbl wsL_law_r16 := goodIn_p wsL_law_r16 [380, 385, 389, 392, 395, 398] (by decide +kernel) (by decide +kernel)
set_option maxRecDepth 20000 in
theorem wsL_law_r17_g : GoodIn lw_tbl wsL_law_r17 := goodIn_p wsL_law_r17 [404, 687, 691, 695] (by decide +kernel) (by decide +kernel)
set_option maxRecDepth 20000 in
theorem wsL_law_r18_g : GoodIn lw_tbl wsL_law_r18 := goodIn_p wsL_law_r18 [699, 703, 707, 711, 714, 718, 412] (by decide +kernel) (by decide +kernel)
set_option maxRecDepth 20000 in
theorem wsL_law_r19_g : GoodIn lw_tbl wsL_law_r19 := goodIn_p wsL_law_r19 [725, 416, 420, 424, 729] (by decide +kernel) (by decide +kernel)
set_option maxRecDepth 20000 in
theorem wsL_law_r20_g : GoodIn lw_tbl wsL_law_r20 := goodIn_p wsL_law_r20 [428, 733, 432, 436, 439] (by decide +kernel) (by decide +kernel)
set_option maxRecDepth 20000 in
theorem wsL_law_r21_g : GoodIn lw_tbl wsL_law_r21 := goodIn_p wsL_law_r21 [447, 737, 740, 451, 455, 591] (by decide +kernel) (by decide +kernel)
set_option maxRecDepth 20000 in
theorem wsL_law_r22_g : GoodIn lw_tbl wsL_law_r22 := goodIn_p wsL_law_r22 [459, 595, 464, 602, 468] (by decide +kernel) (by decide +kernel)
set_option maxRecDepth 20000 in
theorem wsL_law_r23_g : GoodIn lw_tbl wsL_law_r23 := goodIn_p wsL_law_r23 [473, 477, 480, 744, 748] (by decide +kernel) (by decide +kernel)
set_option maxRecDepth 20000 in
theorem wsL_law_r24_g : GoodIn lw_tbl wsL_law_r24 := goodIn_p wsL_law_r24 [752, 756, 484, 760, 488] (by decide +kernel) (by decide +kernel)
set_option maxRecDepth 20000 in
theorem wsL_law_r25_g : GoodIn lw_tbl wsL_law_r25 := goodIn_p wsL_law_r25 [764, 768, 494, 497, 772, 503] (by decide +kernel) (by decide +kernel)
set_option maxRecDepth 20000 in
theorem wsL_law_r26_g : GoodIn lw_tbl wsL_law_r26 := goodIn_p wsL_law_r26 [776, 507, 780, 513, 785] (by decide +kernel) (by decide +kernel)
set_option maxRecDepth 20000 in
theorem wsL_law_r27_g : GoodIn lw_tbl wsL_law_r27 := goodIn_p wsL_law_r27 [517, 521, 789, 793, 525] (by decide +kernel) (by decide +kernel)
set_option maxRecDepth 20000 in
theorem wsL_law_r28_g : GoodIn lw_tbl wsL_law_r28 := goodIn_p wsL_law_r28 [797] (by decide +kernel) (by decide +kernel)
set_option maxRecDepth 20000 in
theorem wsX50_g : GoodIn lw_tbl wsX50 := goodIn_p wsX50 [] (by decide +kernel) (by decide +kernel)
set_option maxRecDepth 20000 in
theorem wsX60_g : GoodIn lw_tbl wsX60 := goodIn_p wsX60 [] (by decide +kernel) (by decide +kernel)
set_option maxRecDepth 20000 in
theorem wsX30_g : GoodIn lw_tbl wsX30 := goodIn_p wsX30 [] (by decide +kernel) (by decide +kernel)
set_option maxRecDepth 20000 in
theorem wsX10_g : GoodIn lw_tbl wsX10 := goodIn_p wsX10 [] (by decide +kernel) (by decide +kernel)
set_option maxRecDepth 20000 in
theorem wsX40_g : GoodIn lw_tbl wsX40 := goodIn_p wsX40 [] (by decide +kernel) (by decide +kernel)
set_option maxRecDepth 20000 in
theorem wsX20_g : GoodIn lw_tbl wsX20 := goodIn_p wsX20 [] (by decide +kernel) (by decide +kernel)
set_option maxRecDepth 20000 in
theorem wsX00_g : GoodIn lw_tbl wsX00 := goodIn_p wsX00 [] (by decide +kernel) (by decide +kernel)
theorem wsN_g : GoodIn lw_tbl ([] : List Cond) := fun _ h => absurd h List.not_mem_nil
theorem wsL_law_g : GoodIn lw_tbl wsL_law := (goodIn_app (goodIn_app (goodIn_app (goodIn_app (goodIn_app (goodIn_app (goodIn_app (goodIn_app (goodIn_app wsL_law_r1_g (goodIn_app wsL_law_r2_g (goodIn_app wsL_law_r3_g (goodIn_app wsL_law_r4_g (goodIn_app wsL_law_r5_g (goodIn_app wsL_law_r6_g (goodIn_app wsL_law_r7_g (goodIn_app wsL_law_r8_g (goodIn_app wsL_law_r9_g (goodIn_app wsL_law_r10_g (goodIn_app wsL_law_r11_g (goodIn_app wsL_law_r12_g (goodIn_app wsL_law_r13_g (goodIn_app wsL_law_r14_g (goodIn_app wsL_law_r15_g (goodIn_app wsL_law_r16_g (goodIn_app wsL_law_r17_g (goodIn_app wsL_law_r18_g (goodIn_app wsL_law_r19_g (goodIn_app wsL_law_r20_g (goodIn_app wsL_law_r21_g (goodIn_app wsL_law_r22_g (goodIn_app wsL_law_r23_g (goodIn_app wsL_law_r24_g (goodIn_app wsL_law_r25_g (goodIn_app wsL_law_r26_g (goodIn_app wsL_law_r27_g wsL_law_r28_g))))))))))))))))))))))))))) wsX50_g) wsX60_g) wsX30_g) wsX10_g) wsX40_g) wsX20_g) wsX00_g) wsN_g)
theorem wsL_law_in : ∀ w ∈ wsL_law, w ∈ lw_tbl := fun w h => (wsL_law_g w h).1
theorem inlX0 : ∀ w ∈ wsX00, w ∈ wsL_law := fun _ h => List.mem_append_left _ (List.mem_append_right _ h)
theorem inX0 : ∀ w ∈ wsX00, w ∈ lw_tbl := fun w h => wsL_law_in w (inlX0 w h)
theorem inlX1 : ∀ w ∈ wsX10, w ∈ wsL_law := fun _ h => List.mem_append_left _ (List.mem_append_left _ (List.mem_append_left _ (List.mem_append_left _ (List.mem_append_right _ h))))
theorem inX1 : ∀ w ∈ wsX10, w ∈ lw_tbl := fun w h => wsL_law_in w (inlX1 w h)
theorem inlX2 : ∀ w ∈ wsX20, w ∈ wsL_law := fun _ h => List.mem_append_left _ (List.mem_append_left _ (List.mem_append_right _ h))
theorem inX2 : ∀ w ∈ wsX20, w ∈ lw_tbl := fun w h => wsL_law_in w (inlX2 w h)
theorem inlX3 : ∀ w ∈ wsX30, w ∈ wsL_law := fun _ h => List.mem_append_left _ (List.mem_append_left _ (List.mem_append_left _ (List.mem_append_left _ (List.mem_append_left _ (List.mem_append_right _ h)))))
theorem inX3 : ∀ w ∈ wsX30, w ∈ lw_tbl := fun w h => wsL_law_in w (inlX3 w h)
theorem inlX4 : ∀ w ∈ wsX40, w ∈ wsL_law := fun _ h => List.mem_append_left _ (List.mem_append_left _ (List.mem_append_left _ (List.mem_append_right _ h)))
theorem inX4 : ∀ w ∈ wsX40, w ∈ lw_tbl := fun w h => wsL_law_in w (inlX4 w h)
theorem inlX5 : ∀ w ∈ wsX50, w ∈ wsL_law := fun _ h => List.mem_append_left _ (List.mem_append_left _ (List.mem_append_left _ (List.mem_append_left _ (List.mem_append_left _ (List.mem_append_left _ (List.mem_append_left _ (List.mem_append_right _ h)))))))
theorem inX5 : ∀ w ∈ wsX50, w ∈ lw_tbl := fun w h => wsL_law_in w (inlX5 w h)
theorem inlX6 : ∀ w ∈ wsX60, w ∈ wsL_law := fun _ h => List.mem_append_left _ (List.mem_append_left _ (List.mem_append_left _ (List.mem_append_left _ (List.mem_append_left _ (List.mem_append_left _ (List.mem_append_right _ h))))))
theorem inX6 : ∀ w ∈ wsX60, w ∈ lw_tbl := fun w h => wsL_law_in w (inlX6 w h)
end
section
/-! worlds by membership: cut and join up to order -/
theorem pw_iff {D : va_G} {cl : List vw_C} {ws : va_W} {H : Heap} : va_P D cl ws H ↔ ∀ q ∈ ws, va_at D cl q H := by
  constructor
  · intro h q hq
    obtain ⟨k, hk⟩ := List.getElem?_of_mem hq
    exact h k q hk
  · intro h k q hk
    exact h q (List.mem_of_getElem? hk)
theorem pw_perm {D : va_G} {cl : List vw_C} {ws ws' : va_W} {H : Heap} (p : ws.Perm ws') (h : va_P D cl ws H) : va_P D cl ws' H :=
  pw_iff.mpr (fun q hq => pw_iff.mp h q (p.mem_iff.mpr hq))
theorem pw_left {D : va_G} {cl : List vw_C} {a b : va_W} {H : Heap} (h : va_P D cl (a ++ b) H) : va_P D cl a H :=
  pw_iff.mpr (fun q hq => pw_iff.mp h q (List.mem_append_left _ hq))
theorem pw_right {D : va_G} {cl : List vw_C} {a b : va_W} {H : Heap} (h : va_P D cl (a ++ b) H) : va_P D cl b H :=
  pw_iff.mpr (fun q hq => pw_iff.mp h q (List.mem_append_right _ hq))
theorem pw_cut {D : va_G} {cl : List vw_C} {ws wc wr : va_W} {H : Heap} (p : ws.Perm (wc ++ wr)) (h : va_P D cl ws H) : va_P D cl wc H := pw_left (pw_perm p h)
theorem dw_iff {A : Nat → Prop} {ws : va_W} : va_D A ws ↔ (ws.map Prod.fst).Nodup ∧ ∀ q ∈ ws, A q.1 := by
  constructor
  · rintro ⟨h1, h2⟩
    refine ⟨?_, fun q hq => ?_⟩
    · rw [List.nodup_iff_pairwise_ne, List.pairwise_iff_getElem]
      intro i j hi hj hij he
      rw [List.length_map] at hi hj
      rw [List.getElem_map, List.getElem_map] at he
      have := h1 i j ws[i] ws[j] (List.getElem?_eq_getElem hi) (List.getElem?_eq_getElem hj) he
      omega
    · obtain ⟨k, hk⟩ := List.getElem?_of_mem hq
      exact h2 k q hk
  · rintro ⟨h1, h2⟩
    refine ⟨fun i j p q hi hj hpq => ?_, fun k q hk => h2 q (List.mem_of_getElem? hk)⟩
    have hil : i < ws.length := (List.getElem?_eq_some_iff.mp hi).1
    refine (List.getElem?_inj (l := ws.map Prod.fst) (by rw [List.length_map]; exact hil) h1).mp ?_
    rw [List.getElem?_map, List.getElem?_map, hi, hj]
    show some p.1 = some q.1
    rw [hpq]
theorem dw_perm {A : Nat → Prop} {ws ws' : va_W} (p : ws.Perm ws') (h : va_D A ws) : va_D A ws' := by
  obtain ⟨h1, h2⟩ := dw_iff.mp h
  exact dw_iff.mpr ⟨(p.map Prod.fst).nodup h1, fun q hq => h2 q (p.mem_iff.mpr hq)⟩
theorem dw_congr {A : Nat → Prop} {ws ws' : va_W} (e : ws'.map Prod.fst = ws.map Prod.fst) (h : va_D A ws) : va_D A ws' := by
  obtain ⟨h1, h2⟩ := dw_iff.mp h
  refine dw_iff.mpr ⟨by rw [e]; exact h1, fun q hq => ?_⟩
  have h3 : q.1 ∈ ws'.map Prod.fst := List.mem_map_of_mem hq
  rw [e] at h3
  obtain ⟨q0, h4, h5⟩ := List.mem_map.mp h3
  rw [← h5]
  exact h2 q0 h4
theorem dw_left {A : Nat → Prop} {a b : va_W} (h : va_D A (a ++ b)) : va_D A a := by
  obtain ⟨h1, h2⟩ := dw_iff.mp h
  rw [List.map_append] at h1
  exact dw_iff.mpr ⟨(List.nodup_append.mp h1).1, fun q hq => h2 q (List.mem_append_left _ hq)⟩
theorem dw_right {A : Nat → Prop} {a b : va_W} (h : va_D A (a ++ b)) : va_D A b := by
  obtain ⟨h1, h2⟩ := dw_iff.mp h
  rw [List.map_append] at h1
  exact dw_iff.mpr ⟨(List.nodup_append.mp h1).2.1, fun q hq => h2 q (List.mem_append_right _ hq)⟩
theorem dw_cut {A : Nat → Prop} {ws wc wr : va_W} (p : ws.Perm (wc ++ wr)) (h : va_D A ws) : va_D A wc := dw_left (dw_perm p h)
theorem dw_true {A : Nat → Prop} {ws : va_W} (h : va_D A ws) : va_D (fun _ => True) ws := h.weaken (fun _ _ _ _ => trivial)
theorem va_A_mem {ws : va_W} {sz q : Nat} : va_A ws sz q ↔ (∃ e, (q, e) ∈ ws) ∨ sz ≤ q := by
  constructor
  · rintro (⟨k, e, h⟩ | h)
    · exact Or.inl ⟨e, List.mem_of_getElem? h⟩
    · exact Or.inr h
  · rintro (⟨e, h⟩ | h)
    · obtain ⟨k, hk⟩ := List.getElem?_of_mem h
      exact Or.inl ⟨k, e, hk⟩
    · exact Or.inr h
theorem w_free {A0 : Nat → Prop} {ws wc wr : va_W} {H0 H : Heap} {locs : List Loc} (hD : va_D A0 ws) (p : ws.Perm (wc ++ wr)) (hS : va_S A0 H0 H locs) (hA : ∀ q, H0.size ≤ q → A0 q) : ∀ q, va_A wc H.size q → A0 q := by
  intro q hq
  rcases va_A_mem.mp hq with ⟨e, h⟩ | h
  · exact (dw_iff.mp hD).2 (q, e) (p.mem_iff.mpr (List.mem_append_left _ h))
  · exact hA q (Nat.le_trans hS.1 h)
/-- behind a call: ws was wc and wr, the callee made w1 of wc, ws' is w1 and wr -/
theorem w_join {A0 : Nat → Prop} {D : va_G} {cl : List vw_C} {ws wc wr w1 ws' : va_W} {H H1 : Heap} (hP : va_P D cl ws H) (hD : va_D A0 ws) (p : ws.Perm (wc ++ wr)) (p' : ws'.Perm (w1 ++ wr))
    (hk : ∀ q : Nat, q < H.size → ¬ va_A wc H.size q → H1[q]? = H[q]?) (hF : ∀ q, va_A wc H.size q → A0 q) (hP1 : va_P D cl w1 H1) (hD1 : va_D (va_A wc H.size) w1) : va_P D cl ws' H1 ∧ va_D A0 ws' := by
  have hPp := pw_perm p hP
  obtain ⟨n1, n2⟩ := dw_iff.mp (dw_perm p hD)
  rw [List.map_append, List.nodup_append] at n1
  obtain ⟨-, m2, m3⟩ := n1
  have far : ∀ q ∈ wr, q.1 < H.size ∧ ¬ va_A wc H.size q.1 := by
    intro q hq
    have hl : q.1 < H.size := (pw_iff.mp hPp q (List.mem_append_right _ hq)).lt
    refine ⟨hl, fun h => ?_⟩
    rcases va_A_mem.mp h with ⟨e, h⟩ | h
    · exact m3 q.1 (List.mem_map.mpr ⟨(q.1, e), h, rfl⟩) q.1 (List.mem_map_of_mem hq) rfl
    · omega
  obtain ⟨a1, a2⟩ := dw_iff.mp hD1
  constructor
  · refine pw_iff.mpr (fun q hq => ?_)
    rcases List.mem_append.mp (p'.mem_iff.mp hq) with h | h
    · exact pw_iff.mp hP1 q h
    · obtain ⟨g1, g2⟩ := far q h
      exact (pw_iff.mp hPp q (List.mem_append_right _ h)).kept (hk q.1 g1 g2)
  · refine dw_perm p'.symm (dw_iff.mpr ⟨?_, fun q hq => ?_⟩)
    · rw [List.map_append, List.nodup_append]
      refine ⟨a1, m2, fun a ha b hb e => ?_⟩
      obtain ⟨x, hx, rfl⟩ := List.mem_map.mp ha
      obtain ⟨y, hy, rfl⟩ := List.mem_map.mp hb
      exact (far y hy).2 (by rw [← e]; exact a2 x hx)
    · rcases List.mem_append.mp hq with h | h
      · exact hF _ (a2 q h)
      · exact n2 q (List.mem_append_right _ h)
/-! blocks of cells -/
theorem blk_perm (bs : List va_W) (is : List Nat) (h : is.Perm (List.range bs.length)) : bs.flatten.Perm (is.map (fun i => bs.getD i [])).flatten := by
  have e : bs = (List.range bs.length).map (fun i => bs.getD i []) := by
    apply List.ext_getElem?
    intro i
    rw [List.getElem?_map]
    by_cases hi : i < bs.length
    · rw [List.getElem?_range hi, List.getElem?_eq_getElem hi]
      simp [hi]
    · rw [List.getElem?_eq_none (by omega), List.getElem?_eq_none (by simp; omega)]
      rfl
  have p : bs.Perm (is.map (fun i => bs.getD i [])) := by
    refine (List.Perm.of_eq e).trans ?_
    exact (h.map _).symm
  exact p.flatten
/-! the contexts of a contract: arrays' classes, nest mates, worlds -/
abbrev tysOf (ct : Nat → ClassId) : List (ClassId × FieldType) := [(ct 0, .int), (ct 1, .float), (ct 2, .char), (ct 3, .boolean), (ct 4, .object RX0), (ct 5, .object RX3), (ct 6, .object RX2)]
def nsB (U : State) : Prop :=
  va_Nw (.methodLinkNest RX0 56 yX5_glowUnlit RX5) U ∧ va_Nw (.methodLinkNest RX0 60 yX5_glowLit RX5) U ∧ va_Nw (.methodLinkNest RX3 75 yX5_isWithin RX5) U ∧
  va_Nw (.methodLinkNest RX4 26 yX5_patternOf RX5) U ∧ va_Nw (.methodLinkNest RX5 34 yX4_init RX5) U ∧ va_Nw (.methodLinkNest RX5 39 yX2_init RX5) U
theorem nsB.same {u U : State} (h : u.vm = U.vm) (hn : nsB u) : nsB U := by
  obtain ⟨h1, h2, h3, h4, h5, h6⟩ := hn
  exact ⟨h1.same rfl h, h2.same rfl h, h3.same rfl h, h4.same rfl h, h5.same rfl h, h6.same rfl h⟩
theorem nsB.warm {s U : State} (hW : s.WarmedH U.vm) (hn : nsB s) : nsB U := by
  obtain ⟨h1, h2, h3, h4, h5, h6⟩ := hn
  exact ⟨h1.warmM hW, h2.warmM hW, h3.warmM hW, h4.warmM hW, h5.warmM hW, h6.warmM hW⟩
/-- what a method that changes nothing asks of the heap -/
def roB (D : va_G) (ct : Nat → ClassId) (ws : va_W) (U : State) : Prop := va_P D vwCl ws U.heap ∧ va_K D vwCl (tysOf ct) U ∧ nsB U
def roP (D : va_G) (ct : Nat → ClassId) (ws : va_W) (av : List Value) : Array Value → State → Prop := va_Pc av (roB D ct ws)
theorem roP.blind {D : va_G} {ct : Nat → ClassId} {ws : va_W} {av : List Value} : FrameBlind (roP D ct ws av) := fun _ _ _ _ q => ⟨q.1, q.2.1, va_K.moved (Vm.Alike.refl _) q.2.2.1, nsB.same rfl q.2.2.2⟩
theorem roP.at {D : va_G} {ct : Nat → ClassId} {ws : va_W} {av : List Value} {s : State} {H : Heap} (hP : va_P D vwCl ws H) (hK : va_K D vwCl (tysOf ct) s) (hN : nsB s) : ∀ U : State, U.heap = H → s.WarmedH U.vm → roP D ct ws av av.toArray U :=
  fun _ hU hW => ⟨rfl, by rw [hU]; exact hP, va_K.moved hW.alike hK, hN.warm hW⟩
/-- what a method that changes its world asks -/
def muB (D : va_G) (ct : Nat → ClassId) (ws : va_W) (sz : Nat) (U : State) : Prop := U.heap.size = sz ∧ va_P D vwCl ws U.heap ∧ va_K D vwCl (tysOf ct) U ∧ nsB U ∧ va_D (fun _ => True) ws
def muP (D : va_G) (ct : Nat → ClassId) (ws : va_W) (sz : Nat) (av : List Value) : Array Value → State → Prop := va_Pc av (muB D ct ws sz)
theorem muP.blind {D : va_G} {ct : Nat → ClassId} {ws : va_W} {sz : Nat} {av : List Value} : FrameBlind (muP D ct ws sz av) := fun _ _ _ _ q => ⟨q.1, q.2.1, q.2.2.1, va_K.moved (Vm.Alike.refl _) q.2.2.2.1, nsB.same rfl q.2.2.2.2.1, q.2.2.2.2.2⟩
theorem muP.at {D : va_G} {ct : Nat → ClassId} {ws : va_W} {av : List Value} {s : State} {H : Heap} {A : Nat → Prop} (hP : va_P D vwCl ws H) (hD : va_D A ws) (hK : va_K D vwCl (tysOf ct) s) (hN : nsB s) : ∀ U : State, U.heap = H → s.WarmedH U.vm → muP D ct ws H.size av av.toArray U :=
  fun _ hU hW => ⟨rfl, by rw [hU], by rw [hU]; exact hP, va_K.moved hW.alike hK, hN.warm hW, dw_true hD⟩
/-- what it leaves -/
def muE (D : va_G) (ct : Nat → ClassId) (ws w1 : va_W) (sz : Nat) (t : State) : Prop := va_P D vwCl w1 t.heap ∧ va_D (va_A ws sz) w1
theorem muE.join {A0 : Nat → Prop} {D : va_G} {ct : Nat → ClassId} {ws wc wr w1 ws' : va_W} {H H1 : Heap} {t : State} (hP : va_P D vwCl ws H) (hD : va_D A0 ws) (p : ws.Perm (wc ++ wr)) (p' : ws'.Perm (w1 ++ wr))
    (hk : ∀ q : Nat, q < H.size → ¬ va_A wc H.size q → H1[q]? = H[q]?) (hF : ∀ q, va_A wc H.size q → A0 q) (ht : t.heap = H1) (h : muE D ct wc w1 H.size t) : va_P D vwCl ws' H1 ∧ va_D A0 ws' := by
  obtain ⟨h1, h2⟩ := h
  rw [ht] at h1
  exact w_join hP hD p p' hk hF h1 h2
theorem muE.of {D : va_G} {ct : Nat → ClassId} {ws w1 : va_W} {sz : Nat} {t : State} {H : Heap} (hP : va_P D vwCl w1 H) (hD : va_D (va_A ws sz) w1) (ht : t.heap = H) : muE D ct ws w1 sz t := ⟨by rw [ht]; exact hP, hD⟩
abbrev roI (post : Int32 → Prop) : Array Value → State → Outcome → State → Prop := vp_Si post
abbrev noA : Nat → Prop := fun _ => False
abbrev muI (D : va_G) (ct : Nat → ClassId) (ws w1 : va_W) (sz : Nat) (post : Int32 → Prop) : Array Value → State → Outcome → State → Prop := va_Qi (S := Unit) (fun r _ => post r) (fun _ t => muE D ct ws w1 sz t) (va_A ws sz)
abbrev muV (D : va_G) (ct : Nat → ClassId) (ws w1 : va_W) (sz : Nat) : Array Value → State → Outcome → State → Prop := va_Qv (S := Unit) (fun _ => True) (fun _ t => muE D ct ws w1 sz t) (va_A ws sz)
end
section
section MyRows
variable {p : Program} {l : Launch} {e : Env} {R : Room} {s : State} {m : MethodId} {args : Array Value} {below : List Frame} {meth : Method} {c : Code} {H : Heap} {locs : List Loc} {cells slots : Nat} {Q : State → Prop}
variable {cc : ByteArray} {pc : Nat} {ls : Array Slot} {rest : List Value} {D : va_G} {cl : List vw_C} {A : Nat → Prop} {a : Nat} {tys : List (ClassId × FieldType)} {ws : va_W} {H0 : Heap}
theorem lv_as {x y : Int32} (h : x = y) (k : W p l e R s m args below meth c H locs cells slots Q (F0 m pc ls (.int y :: rest))) : W p l e R s m args below meth c H locs cells slots Q (F0 m pc ls (.int x :: rest)) := h ▸ k
theorem lv_asf {x y : UInt32} (h : x = y) (k : W p l e R s m args below meth c H locs cells slots Q (F0 m pc ls (.float y :: rest))) : W p l e R s m args below meth c H locs cells slots Q (F0 m pc ls (.float x :: rest)) := h ▸ k
theorem r_in {k n : Nat} {i : Int32} (hi : i = nI k) (hk : k < n) (hn : n < 2 ^ 31) : vp_in i n := by subst hi; exact vp_in_nI hk (by omega)
theorem r_ix {k n : Nat} {i : Int32} (hi : i = nI k) (hk : k < n) (hn : n < 2 ^ 31) : i.toNatClampNeg = k := by subst hi; exact nI_clamp (by omega)
theorem r_iald (hexec : p.tables.exec = Jvm.exec) (hb : c.code = cc) (hK : va_K D cl tys s) (hP : va_P D cl ws H) (q0 t0 : Nat) {cA : ClassId} {n : Nat} {f : Nat → Int32} (ha : ws[q0]? = some (a, .inl (cA, n, .inl f))) (ht : tys[t0]? = some (cA, .int)) {i : Int32} {k : Nat} (hi : i = nI k) (hk : k < n) (hn : n < 2 ^ 31) (hdg : decode cc pc = .ok (.iaload, 1))
    (kk : W p l e R s m args below meth c H locs cells slots Q (F0 m (pc + 1) ls (.int (f k) :: rest))) : W p l e R s m args below meth c H locs cells slots Q (F0 m pc ls (.int i :: .ref a :: rest)) :=
  va_iald hexec hb hK hP q0 t0 ha ht (r_in hi hk hn) hdg (by rw [r_ix hi hk hn]; exact kk)
theorem r_cald (hexec : p.tables.exec = Jvm.exec) (hb : c.code = cc) (hK : va_K D cl tys s) (hP : va_P D cl ws H) (q0 t0 : Nat) {cA : ClassId} {n : Nat} {f : Nat → Int32} (ha : ws[q0]? = some (a, .inl (cA, n, .inl f))) (ht : tys[t0]? = some (cA, .char)) {i : Int32} {k : Nat} (hi : i = nI k) (hk : k < n) (hn : n < 2 ^ 31) (hdg : decode cc pc = .ok (.caload, 1))
    (kk : W p l e R s m args below meth c H locs cells slots Q (F0 m (pc + 1) ls (.int (f k) :: rest))) : W p l e R s m args below meth c H locs cells slots Q (F0 m pc ls (.int i :: .ref a :: rest)) :=
  va_cald hexec hb hK hP q0 t0 ha ht (r_in hi hk hn) hdg (by rw [r_ix hi hk hn]; exact kk)
theorem r_zald (hexec : p.tables.exec = Jvm.exec) (hb : c.code = cc) (hK : va_K D cl tys s) (hP : va_P D cl ws H) (q0 t0 : Nat) {cA : ClassId} {n : Nat} {f : Nat → Int32} (ha : ws[q0]? = some (a, .inl (cA, n, .inl f))) (ht : tys[t0]? = some (cA, .boolean)) {i : Int32} {k : Nat} (hi : i = nI k) (hk : k < n) (hn : n < 2 ^ 31) (hdg : decode cc pc = .ok (.baload, 1))
    (kk : W p l e R s m args below meth c H locs cells slots Q (F0 m (pc + 1) ls (.int (f k) :: rest))) : W p l e R s m args below meth c H locs cells slots Q (F0 m pc ls (.int i :: .ref a :: rest)) :=
  va_zald hexec hb hK hP q0 t0 ha ht (r_in hi hk hn) hdg (by rw [r_ix hi hk hn]; exact kk)
theorem r_fald (hexec : p.tables.exec = Jvm.exec) (hb : c.code = cc) (hK : va_K D cl tys s) (hP : va_P D cl ws H) (q0 t0 : Nat) {cA : ClassId} {n : Nat} {f : Nat → UInt32} (ha : ws[q0]? = some (a, .inl (cA, n, .inr (.inr (.inl f))))) (ht : tys[t0]? = some (cA, .float)) {i : Int32} {k : Nat} (hi : i = nI k) (hk : k < n) (hn : n < 2 ^ 31) (hdg : decode cc pc = .ok (.faload, 1))
    (kk : W p l e R s m args below meth c H locs cells slots Q (F0 m (pc + 1) ls (.float (f k) :: rest))) : W p l e R s m args below meth c H locs cells slots Q (F0 m pc ls (.int i :: .ref a :: rest)) :=
  va_fald hexec hb hK hP q0 t0 ha ht (r_in hi hk hn) hdg (by rw [r_ix hi hk hn]; exact kk)
theorem r_aldq (hexec : p.tables.exec = Jvm.exec) (hb : c.code = cc) (hK : va_K D cl tys s) (hP : va_P D cl ws H) (q0 t0 : Nat) {cA : ClassId} {C : String} {n : Nat} {f : Nat → Option Nat} (ha : ws[q0]? = some (a, .inl (cA, n, .inr (.inr (.inr (.inr f)))))) (ht : tys[t0]? = some (cA, .object C)) {i : Int32} {k v : Nat} (hi : i = nI k) (hk : k < n) (hn : n < 2 ^ 31) (hv : f k = some v) (hdg : decode cc pc = .ok (.aaload, 1))
    (kk : W p l e R s m args below meth c H locs cells slots Q (F0 m (pc + 1) ls (.ref v :: rest))) : W p l e R s m args below meth c H locs cells slots Q (F0 m pc ls (.int i :: .ref a :: rest)) :=
  va_aldq hexec hb hK hP q0 t0 ha ht (r_in hi hk hn) hdg (by rw [r_ix hi hk hn, hv]; exact kk)
theorem r_iast (hexec : p.tables.exec = Jvm.exec) (hb : c.code = cc) (hK : va_K D cl tys s) (hP : va_P D cl ws H) (hD : va_D A ws) (hS : va_S A H0 H locs) (q0 t0 : Nat) {cA : ClassId} {n : Nat} {f : Nat → Int32} (ha : ws[q0]? = some (a, .inl (cA, n, .inl f))) (ht : tys[t0]? = some (cA, .int)) {i : Int32} {x : Int32} {k : Nat} (hi : i = nI k) (hk : k < n) (hn : n < 2 ^ 31) (hdg : decode cc pc = .ok (.iastore, 1))
    (kk : ∀ (H1 : Heap) (locs1 : List Loc), va_P D cl (ws.set q0 (a, .inl (cA, n, .inl (upd f k x)))) H1 → va_D A (ws.set q0 (a, .inl (cA, n, .inl (upd f k x)))) → va_S A H0 H1 locs1 → W p l e R s m args below meth c H1 locs1 cells slots Q (F0 m (pc + 1) ls rest)) : W p l e R s m args below meth c H locs cells slots Q (F0 m pc ls (.int x :: .int i :: .ref a :: rest)) :=
  va_iast hexec hb hK hP hD hS q0 t0 ha ht (r_in hi hk hn) hdg (by rw [r_ix hi hk hn]; exact kk)
theorem r_cast (hexec : p.tables.exec = Jvm.exec) (hb : c.code = cc) (hK : va_K D cl tys s) (hP : va_P D cl ws H) (hD : va_D A ws) (hS : va_S A H0 H locs) (q0 t0 : Nat) {cA : ClassId} {n : Nat} {f : Nat → Int32} (ha : ws[q0]? = some (a, .inl (cA, n, .inl f))) (ht : tys[t0]? = some (cA, .char)) {i : Int32} {x : Int32} {k : Nat} (hi : i = nI k) (hk : k < n) (hn : n < 2 ^ 31) (hx : vp_nar .char x = x) (hdg : decode cc pc = .ok (.castore, 1))
    (kk : ∀ (H1 : Heap) (locs1 : List Loc), va_P D cl (ws.set q0 (a, .inl (cA, n, .inl (upd f k x)))) H1 → va_D A (ws.set q0 (a, .inl (cA, n, .inl (upd f k x)))) → va_S A H0 H1 locs1 → W p l e R s m args below meth c H1 locs1 cells slots Q (F0 m (pc + 1) ls rest)) : W p l e R s m args below meth c H locs cells slots Q (F0 m pc ls (.int x :: .int i :: .ref a :: rest)) :=
  va_cast hexec hb hK hP hD hS q0 t0 ha ht (r_in hi hk hn) hdg (by rw [r_ix hi hk hn, hx]; exact kk)
theorem r_zast (hexec : p.tables.exec = Jvm.exec) (hb : c.code = cc) (hK : va_K D cl tys s) (hP : va_P D cl ws H) (hD : va_D A ws) (hS : va_S A H0 H locs) (q0 t0 : Nat) {cA : ClassId} {n : Nat} {f : Nat → Int32} (ha : ws[q0]? = some (a, .inl (cA, n, .inl f))) (ht : tys[t0]? = some (cA, .boolean)) {i : Int32} {x : Int32} {k : Nat} (hi : i = nI k) (hk : k < n) (hn : n < 2 ^ 31) (hx : vp_nar .boolean x = x) (hdg : decode cc pc = .ok (.bastore, 1))
    (kk : ∀ (H1 : Heap) (locs1 : List Loc), va_P D cl (ws.set q0 (a, .inl (cA, n, .inl (upd f k x)))) H1 → va_D A (ws.set q0 (a, .inl (cA, n, .inl (upd f k x)))) → va_S A H0 H1 locs1 → W p l e R s m args below meth c H1 locs1 cells slots Q (F0 m (pc + 1) ls rest)) : W p l e R s m args below meth c H locs cells slots Q (F0 m pc ls (.int x :: .int i :: .ref a :: rest)) :=
  va_zast hexec hb hK hP hD hS q0 t0 ha ht (r_in hi hk hn) hdg (by rw [r_ix hi hk hn, hx]; exact kk)
theorem r_fast (hexec : p.tables.exec = Jvm.exec) (hb : c.code = cc) (hK : va_K D cl tys s) (hP : va_P D cl ws H) (hD : va_D A ws) (hS : va_S A H0 H locs) (q0 t0 : Nat) {cA : ClassId} {n : Nat} {f : Nat → UInt32} (ha : ws[q0]? = some (a, .inl (cA, n, .inr (.inr (.inl f))))) (ht : tys[t0]? = some (cA, .float)) {i : Int32} {x : UInt32} {k : Nat} (hi : i = nI k) (hk : k < n) (hn : n < 2 ^ 31) (hdg : decode cc pc = .ok (.fastore, 1))
    (kk : ∀ (H1 : Heap) (locs1 : List Loc), va_P D cl (ws.set q0 (a, .inl (cA, n, .inr (.inr (.inl (vf_upd f k x)))))) H1 → va_D A (ws.set q0 (a, .inl (cA, n, .inr (.inr (.inl (vf_upd f k x)))))) → va_S A H0 H1 locs1 → W p l e R s m args below meth c H1 locs1 cells slots Q (F0 m (pc + 1) ls rest)) : W p l e R s m args below meth c H locs cells slots Q (F0 m pc ls (.float x :: .int i :: .ref a :: rest)) :=
  va_fast hexec hb hK hP hD hS q0 t0 ha ht (r_in hi hk hn) hdg (by rw [r_ix hi hk hn]; exact kk)
end MyRows
/-- an array's cell, with other contents outside its bounds -/
theorem arr_ext {cA : ClassId} {n : Nat} {f g : Nat → Int32} (h : ∀ j, j < n → f j = g j) : vp_cell cA (n, .inl f) = vp_cell cA (n, .inl g) := by
  rw [vp_cell_i, vp_cell_i]
  unfold arrV
  congr 2
  funext j
  show Value.int (f j.val) = Value.int (g j.val)
  rw [h j.val j.isLt]
theorem arr_extf {cA : ClassId} {n : Nat} {f g : Nat → UInt32} (h : ∀ j, j < n → f j = g j) : vp_cell cA (n, .inr (.inr (.inl f))) = vp_cell cA (n, .inr (.inr (.inl g))) := by
  rw [vp_cell_f, vp_cell_f]
  unfold arrV
  congr 2
  funext j
  show Value.float (f j.val) = Value.float (g j.val)
  rw [h j.val j.isLt]
/-- the same cells, told otherwise -/
def ceq (q q' : Nat × va_E) : Prop := q = q' ∨ (q.1 = q'.1 ∧ ∃ (cA : ClassId) (x y : vp_A), q.2 = .inl (cA, x) ∧ q'.2 = .inl (cA, y) ∧ vp_cell cA x = vp_cell cA y)
theorem ceq.at {D : va_G} {cl : List vw_C} {q q' : Nat × va_E} {H : Heap} (h : ceq q q') (hq : va_at D cl q H) : va_at D cl q' H := by
  rcases h with rfl | ⟨h1, cA, x, y, h2, h3, h4⟩
  · exact hq
  · obtain ⟨a, e⟩ := q
    obtain ⟨b, f⟩ := q'
    cases h1
    cases h2
    cases h3
    show H[a]? = some (vp_cell cA y)
    rw [← h4]
    exact hq
theorem ceq.rf (q : Nat × va_E) : ceq q q := Or.inl rfl
theorem ceq.i {a : Nat} {cA : ClassId} {n : Nat} {f g : Nat → Int32} (h : ∀ j, j < n → f j = g j) : ceq (a, .inl (cA, n, .inl f)) (a, .inl (cA, n, .inl g)) := Or.inr ⟨rfl, cA, _, _, rfl, rfl, arr_ext h⟩
theorem ceq.f {a : Nat} {cA : ClassId} {n : Nat} {f g : Nat → UInt32} (h : ∀ j, j < n → f j = g j) : ceq (a, .inl (cA, n, .inr (.inr (.inl f)))) (a, .inl (cA, n, .inr (.inr (.inl g)))) := Or.inr ⟨rfl, cA, _, _, rfl, rfl, arr_extf h⟩
def ceqs : va_W → va_W → Prop
  | [], [] => True
  | q :: l, q' :: l' => ceq q q' ∧ ceqs l l'
  | _, _ => False
theorem ceqs.P {D : va_G} {cl : List vw_C} {H : Heap} : ∀ {ws ws' : va_W}, ceqs ws ws' → va_P D cl ws H → va_P D cl ws' H := by
  intro ws
  induction ws with
  | nil => intro ws' h hP; cases ws' with
    | nil => exact hP
    | cons q l => exact h.elim
  | cons q l ih => intro ws' h hP; cases ws' with
    | nil => exact h.elim
    | cons q' l' =>
      obtain ⟨h1, h2⟩ := h
      have hP := pw_iff.mp hP
      have h3 := pw_iff.mp (ih h2 (pw_iff.mpr (fun x hx => hP x (List.mem_cons_of_mem _ hx))))
      refine pw_iff.mpr (fun x hx => ?_)
      rcases List.mem_cons.mp hx with rfl | hx
      · exact h1.at (hP q List.mem_cons_self)
      · exact h3 x hx
end
section
/-! the state of a display: coordinates of whole numbers, and three floats.
 c 0: number of digits, time, frame, ticks, test, driven; c 1: on, c 2: off (by group); c 3: the settings;
 c (4 + d): pattern, width, guard, brightness, group, driven, broken; c (12 + d): glow; c (20 + d): use -/
abbrev SV : Type := (Nat → Nat → Int32) × (Nat → UInt32)
def s2 (v : SV) (i j : Nat) (x : Int32) : SV := (va_up v.1 i (upd (v.1 i) j x), v.2)
def sC (v : SV) (i : Nat) (f : Nat → Int32) : SV := (va_up v.1 i f, v.2)
theorem s2_eq (v : SV) (i j : Nat) (x : Int32) : s2 v i j x = sC v i (upd (v.1 i) j x) := rfl
theorem s2_at (v : SV) (i j : Nat) (x : Int32) (i' j' : Nat) : (s2 v i j x).1 i' j' = if i' = i ∧ j' = j then x else v.1 i' j' := by
  unfold s2 va_up upd
  by_cases h : i' = i
  · subst h
    by_cases h2 : j' = j
    · simp [h2]
    · simp [h2]
  · simp [h]
theorem s2_f (v : SV) (i j : Nat) (x : Int32) : (s2 v i j x).2 = v.2 := rfl
def kc : Nat → Nat
  | 0 => 0
  | 1 => 100
  | 2 => 1
  | 3 => 2
  | 4 => 3
  | j + 5 => 4 + 8 * (j % 3) + j / 3
def cellV (ct : Nat → ClassId) (a : Nat → Nat) (φ : Nat → UInt32) (f : Nat → Int32) : Nat → va_E
  | 0 => .inr (3, [.ref (a 1), .int (f 0), .ref (a 2), .ref (a 3), .ref (a 4), .int (f 1), .int (f 2), .int (f 3), .int (f 4), .int (f 5), .float (φ 0), .float (φ 1), .float (φ 2)])
  | 1 => .inl (ct 4, 8, .inr (.inr (.inr (.inr (fun i => some (a (3 * i + 5)))))))
  | 2 => .inl (ct 0, 4, .inl f)
  | 3 => .inl (ct 0, 4, .inl f)
  | 4 => .inl (ct 0, 3, .inl f)
  | j + 5 => if j % 3 = 0 then .inr (0, [.int (f 1), .int (f 2), .int (f 3), .int (f 0), .int (f 4), .int (f 5), .int (f 6), .ref (a (j + 6)), .ref (a (j + 7))]) else .inl (ct 0, 8, .inl f)
def stV (ct : Nat → ClassId) (a : Nat → Nat) (v : SV) (j : Nat) : va_E := cellV ct a v.2 (v.1 (kc j)) j
def stW (ct : Nat → ClassId) (a : Nat → Nat) (v : SV) : va_W := (List.range 29).map (fun j => (a j, stV ct a v j))
abbrev dgW (ct : Nat → ClassId) (x y z : Nat) (f g u : Nat → Int32) : va_W := [(x, .inr (0, [.int (f 1), .int (f 2), .int (f 3), .int (f 0), .int (f 4), .int (f 5), .int (f 6), .ref y, .ref z])), (y, .inl (ct 0, 8, .inl g)), (z, .inl (ct 0, 8, .inl u))]
/-- the state's digit d -/
abbrev dgA (ct : Nat → ClassId) (a : Nat → Nat) (v : SV) (d : Nat) : va_W := dgW ct (a (3 * d + 5)) (a (3 * d + 6)) (a (3 * d + 7)) (v.1 (4 + d)) (v.1 (12 + d)) (v.1 (20 + d))
def stR (ct : Nat → ClassId) (a : Nat → Nat) (v : SV) (d : Nat) : va_W := ((List.range 29).filter (fun j => j ≠ 3 * d + 5 ∧ j ≠ 3 * d + 6 ∧ j ≠ 3 * d + 7)).map (fun j => (a j, stV ct a v j))
theorem st_d0 (ct : Nat → ClassId) (a : Nat → Nat) (v : SV) (d : Nat) : stV ct a v (3 * d + 5) = .inr (0, [.int (v.1 (4 + d) 1), .int (v.1 (4 + d) 2), .int (v.1 (4 + d) 3), .int (v.1 (4 + d) 0), .int (v.1 (4 + d) 4), .int (v.1 (4 + d) 5), .int (v.1 (4 + d) 6), .ref (a (3 * d + 6)), .ref (a (3 * d + 7))]) := by
  have h1 : 3 * d % 3 = 0 := by omega
  have h2 : kc (3 * d + 5) = 4 + d := by
    show 4 + 8 * (3 * d % 3) + 3 * d / 3 = 4 + d
    omega
  unfold stV
  rw [h2]
  show (if 3 * d % 3 = 0 then _ else _) = _
  rw [if_pos h1]
theorem st_d1 (ct : Nat → ClassId) (a : Nat → Nat) (v : SV) (d : Nat) : stV ct a v (3 * d + 6) = .inl (ct 0, 8, .inl (v.1 (12 + d))) := by
  have h1 : ¬ (3 * d + 1) % 3 = 0 := by omega
  have h2 : kc (3 * d + 6) = 12 + d := by
    show 4 + 8 * ((3 * d + 1) % 3) + (3 * d + 1) / 3 = 12 + d
    omega
  unfold stV
  rw [h2]
  show (if (3 * d + 1) % 3 = 0 then _ else _) = _
  rw [if_neg h1]
theorem st_d2 (ct : Nat → ClassId) (a : Nat → Nat) (v : SV) (d : Nat) : stV ct a v (3 * d + 7) = .inl (ct 0, 8, .inl (v.1 (20 + d))) := by
  have h1 : ¬ (3 * d + 2) % 3 = 0 := by omega
  have h2 : kc (3 * d + 7) = 20 + d := by
    show 4 + 8 * ((3 * d + 2) % 3) + (3 * d + 2) / 3 = 20 + d
    omega
  unfold stV
  rw [h2]
  show (if (3 * d + 2) % 3 = 0 then _ else _) = _
  rw [if_neg h1]
theorem st_perm {ct : Nat → ClassId} {a : Nat → Nat} {v : SV} {d : Nat} (hd : d < 8) : (stW ct a v).Perm (dgA ct a v d ++ stR ct a v d) := by
  have h1 : ∀ d, d < 8 → (List.range 29).Perm ([3 * d + 5, 3 * d + 6, 3 * d + 7] ++ (List.range 29).filter (fun j => j ≠ 3 * d + 5 ∧ j ≠ 3 * d + 6 ∧ j ≠ 3 * d + 7)) := by decide
  have h2 := (h1 d hd).map (fun j => (a j, stV ct a v j))
  rw [List.map_append] at h2
  refine h2.trans (List.Perm.of_eq ?_)
  unfold stR
  congr 1
  show [(a (3 * d + 5), stV ct a v (3 * d + 5)), (a (3 * d + 6), stV ct a v (3 * d + 6)), (a (3 * d + 7), stV ct a v (3 * d + 7))] = _
  rw [st_d0, st_d1, st_d2]
theorem stV_of {ct : Nat → ClassId} {a : Nat → Nat} {v w : SV} {j : Nat} (hc : v.1 (kc j) = w.1 (kc j)) (hf : v.2 = w.2) : stV ct a v j = stV ct a w j := by
  unfold stV
  rw [hc, hf]
theorem stR_of {ct : Nat → ClassId} {a : Nat → Nat} {v w : SV} {d : Nat} (hd : d < 8) (hf : v.2 = w.2) (h : ∀ i, i ≠ 4 + d → i ≠ 12 + d → i ≠ 20 + d → v.1 i = w.1 i) : stR ct a v d = stR ct a w d := by
  unfold stR
  refine List.map_congr_left (fun j hj => ?_)
  have h1 := (List.mem_filter.mp hj).2
  simp only [decide_eq_true_eq] at h1
  obtain ⟨g1, g2, g3⟩ := h1
  have h2 : j < 29 := List.mem_range.mp (List.mem_filter.mp hj).1
  have h3 : kc j ≠ 4 + d ∧ kc j ≠ 12 + d ∧ kc j ≠ 20 + d := by
    match j with
    | 0 => exact ⟨by simp [kc]; omega, by simp [kc]; omega, by simp [kc]; omega⟩
    | 1 => exact ⟨show 100 ≠ 4 + d by omega, show 100 ≠ 12 + d by omega, show 100 ≠ 20 + d by omega⟩
    | 2 => exact ⟨by simp [kc]; omega, by simp [kc]; omega, by simp [kc]; omega⟩
    | 3 => exact ⟨by simp [kc]; omega, by simp [kc]; omega, by simp [kc]; omega⟩
    | 4 => exact ⟨by simp [kc]; omega, by simp [kc]; omega, by simp [kc]; omega⟩
    | j + 5 =>
      have e : kc (j + 5) = 4 + 8 * (j % 3) + j / 3 := rfl
      rw [e]
      refine ⟨?_, ?_, ?_⟩ <;> omega
  rw [stV_of (h _ h3.1 h3.2.1 h3.2.2) hf]
/-- the digit d behind a change -/
theorem st_perm2 {ct : Nat → ClassId} {a : Nat → Nat} {v : SV} {d : Nat} (hd : d < 8) {f g u : Nat → Int32} {w : SV} (hw : w = sC (sC (sC v (4 + d) f) (12 + d) g) (20 + d) u) :
    (stW ct a w).Perm (dgW ct (a (3 * d + 5)) (a (3 * d + 6)) (a (3 * d + 7)) f g u ++ stR ct a v d) := by
  have e1 : w.1 (4 + d) = f := by
    rw [hw]; show va_up (va_up (va_up v.1 (4 + d) f) (12 + d) g) (20 + d) u (4 + d) = f
    rw [va_up_ne _ _ (by omega), va_up_ne _ _ (by omega), va_up_self]
  have e2 : w.1 (12 + d) = g := by
    rw [hw]; show va_up (va_up (va_up v.1 (4 + d) f) (12 + d) g) (20 + d) u (12 + d) = g
    rw [va_up_ne _ _ (by omega), va_up_self]
  have e3 : w.1 (20 + d) = u := by
    rw [hw]; show va_up (va_up (va_up v.1 (4 + d) f) (12 + d) g) (20 + d) u (20 + d) = u
    rw [va_up_self]
  have h : (stW ct a w).Perm (dgW ct (a (3 * d + 5)) (a (3 * d + 6)) (a (3 * d + 7)) (w.1 (4 + d)) (w.1 (12 + d)) (w.1 (20 + d)) ++ stR ct a w d) := st_perm hd
  rw [e1, e2, e3] at h
  rw [stR_of (v := v) (w := w) hd (by rw [hw]; rfl) (fun i h1 h2 h3 => ?_)]
  · exact h
  · rw [hw]; show v.1 i = va_up (va_up (va_up v.1 (4 + d) f) (12 + d) g) (20 + d) u i
    rw [va_up_ne _ _ h3, va_up_ne _ _ h2, va_up_ne _ _ h1]
theorem st_dgP {D : va_G} {ct : Nat → ClassId} {a : Nat → Nat} {v : SV} {d : Nat} {H : Heap} (hd : d < 8) (h : va_P D vwCl (stW ct a v) H) : va_P D vwCl (dgA ct a v d) H := pw_cut (st_perm hd) h
theorem st_len {ct : Nat → ClassId} {a : Nat → Nat} {v : SV} : (stW ct a v).length = 29 := by simp [stW]
theorem st_get {ct : Nat → ClassId} {a : Nat → Nat} {v : SV} {j : Nat} (hj : j < 29) : (stW ct a v)[j]? = some (a j, stV ct a v j) := by
  unfold stW
  rw [List.getElem?_map, List.getElem?_range hj]
  rfl
theorem kc_inj {i j : Nat} (hi : i < 29) (hj : j < 29) (h : kc i = kc j) : i = j := by
  have h1 : ∀ i, i < 29 → ∀ j, j < 29 → kc i = kc j → i = j := by decide +kernel
  exact h1 i hi j hj h
/-- one cell of a state behind a change of its coordinate -/
theorem st_set {ct : Nat → ClassId} {a : Nat → Nat} {v : SV} {i : Nat} (hi : i < 29) (f : Nat → Int32) : (stW ct a v).set i (a i, cellV ct a v.2 f i) = stW ct a (sC v (kc i) f) := by
  apply List.ext_getElem?
  intro j
  by_cases hj : j < 29
  · rw [st_get hj]
    by_cases h : i = j
    · subst h
      rw [List.getElem?_set_self (by rw [st_len]; exact hj)]
      show some (a i, cellV ct a v.2 f i) = some (a i, cellV ct a v.2 (va_up v.1 (kc i) f (kc i)) i)
      rw [va_up_self]
    · rw [List.getElem?_set_ne h, st_get hj]
      show some (a j, cellV ct a v.2 (v.1 (kc j)) j) = some (a j, cellV ct a v.2 (va_up v.1 (kc i) f (kc j)) j)
      rw [va_up_ne _ _ (fun e => h (kc_inj hi hj e.symm))]
  · rw [List.getElem?_eq_none (by rw [List.length_set, st_len]; omega), List.getElem?_eq_none (by rw [st_len]; omega)]
/-- the display's own digits' fields: places 3 d + 5 -/
theorem st_setD {ct : Nat → ClassId} {a : Nat → Nat} {v : SV} {d : Nat} (hd : d < 8) (f : Nat → Int32) :
    (stW ct a v).set (3 * d + 5) (a (3 * d + 5), .inr (0, [.int (f 1), .int (f 2), .int (f 3), .int (f 0), .int (f 4), .int (f 5), .int (f 6), .ref (a (3 * d + 6)), .ref (a (3 * d + 7))])) = stW ct a (sC v (4 + d) f) := by
  have h1 : 3 * d % 3 = 0 := by omega
  have h2 : kc (3 * d + 5) = 4 + d := by
    show 4 + 8 * (3 * d % 3) + 3 * d / 3 = 4 + d
    omega
  have h3 := st_set (ct := ct) (a := a) (v := v) (i := 3 * d + 5) (by omega) f
  rw [h2] at h3
  rw [← h3]
  congr 2
  show _ = (if 3 * d % 3 = 0 then _ else _)
  rw [if_pos h1]
theorem st_getD {ct : Nat → ClassId} {a : Nat → Nat} {v : SV} {d : Nat} (hd : d < 8) :
    (stW ct a v)[3 * d + 5]? = some (a (3 * d + 5), .inr (0, [.int (v.1 (4 + d) 1), .int (v.1 (4 + d) 2), .int (v.1 (4 + d) 3), .int (v.1 (4 + d) 0), .int (v.1 (4 + d) 4), .int (v.1 (4 + d) 5), .int (v.1 (4 + d) 6), .ref (a (3 * d + 6)), .ref (a (3 * d + 7))])) := by
  rw [st_get (by omega), st_d0]
/-! the model's row -/
def rowOf (v : SV) : Nat → Int32 := fun j =>
  if j < 6 then v.1 0 j else if j < 9 then v.1 3 (j - 6) else if j < 12 then v.1 1 (j - 8) else if j < 15 then v.1 2 (j - 11) else if j < 16 then 0
  else if j < 64 then v.1 (4 + (j - 16) / 6) ((j - 16) % 6) else if j < 128 then v.1 (12 + (j - 64) / 8) ((j - 64) % 8) else if j < 192 then v.1 (20 + (j - 128) / 8) ((j - 128) % 8)
  else if j < 200 then v.1 (4 + (j - 192)) 6 else 0
theorem row_0 (v : SV) {j : Nat} (h : j < 6) : rowOf v j = v.1 0 j := by unfold rowOf; rw [if_pos h]
theorem row_3 (v : SV) {j : Nat} (h : j < 3) : rowOf v (6 + j) = v.1 3 j := by
  unfold rowOf; rw [if_neg (by omega), if_pos (by omega), show 6 + j - 6 = j by omega]
theorem row_1 (v : SV) {j : Nat} (h0 : 0 < j) (h : j < 4) : rowOf v (8 + j) = v.1 1 j := by
  unfold rowOf; rw [if_neg (by omega), if_neg (by omega), if_pos (by omega), show 8 + j - 8 = j by omega]
theorem row_2 (v : SV) {j : Nat} (h0 : 0 < j) (h : j < 4) : rowOf v (11 + j) = v.1 2 j := by
  unfold rowOf; rw [if_neg (by omega), if_neg (by omega), if_neg (by omega), if_pos (by omega), show 11 + j - 11 = j by omega]
theorem row_d (v : SV) {d f : Nat} (hd : d < 8) (hf : f < 6) : rowOf v (16 + 6 * d + f) = v.1 (4 + d) f := by
  unfold rowOf; rw [if_neg (by omega), if_neg (by omega), if_neg (by omega), if_neg (by omega), if_neg (by omega), if_pos (by omega)]
  rw [show 4 + (16 + 6 * d + f - 16) / 6 = 4 + d by omega, show (16 + 6 * d + f - 16) % 6 = f by omega]
theorem row_g (v : SV) {d k : Nat} (hd : d < 8) (hk : k < 8) : rowOf v (64 + 8 * d + k) = v.1 (12 + d) k := by
  unfold rowOf; rw [if_neg (by omega), if_neg (by omega), if_neg (by omega), if_neg (by omega), if_neg (by omega), if_neg (by omega), if_pos (by omega)]
  rw [show 12 + (64 + 8 * d + k - 64) / 8 = 12 + d by omega, show (64 + 8 * d + k - 64) % 8 = k by omega]
theorem row_u (v : SV) {d k : Nat} (hd : d < 8) (hk : k < 8) : rowOf v (128 + 8 * d + k) = v.1 (20 + d) k := by
  unfold rowOf; rw [if_neg (by omega), if_neg (by omega), if_neg (by omega), if_neg (by omega), if_neg (by omega), if_neg (by omega), if_neg (by omega), if_pos (by omega)]
  rw [show 20 + (128 + 8 * d + k - 128) / 8 = 20 + d by omega, show (128 + 8 * d + k - 128) % 8 = k by omega]
theorem row_b (v : SV) {d : Nat} (hd : d < 8) : rowOf v (192 + d) = v.1 (4 + d) 6 := by
  unfold rowOf; rw [if_neg (by omega), if_neg (by omega), if_neg (by omega), if_neg (by omega), if_neg (by omega), if_neg (by omega), if_neg (by omega), if_neg (by omega), if_pos (by omega)]
  rw [show 4 + (192 + d - 192) = 4 + d by omega]
/-- where a coordinate lies in the row -/
def ix (i j : Nat) : Nat := if i = 0 then j else if i = 1 then 8 + j else if i = 2 then 11 + j else if i = 3 then 6 + j else if i < 12 then (if j = 6 then 192 + (i - 4) else 16 + 6 * (i - 4) + j) else if i < 20 then 64 + 8 * (i - 12) + j else 128 + 8 * (i - 20) + j
def okc (i j : Nat) : Prop := (i = 0 ∧ j < 6) ∨ (i = 1 ∧ 0 < j ∧ j < 4) ∨ (i = 2 ∧ 0 < j ∧ j < 4) ∨ (i = 3 ∧ j < 3) ∨ (4 ≤ i ∧ i < 12 ∧ j < 7) ∨ (12 ≤ i ∧ i < 28 ∧ j < 8)
theorem row_upd (v : SV) {i j : Nat} (h : okc i j) (x : Int32) : upd (rowOf v) (ix i j) x = rowOf (s2 v i j x) := by
  funext k
  unfold upd
  have key : ∀ i' j', (s2 v i j x).1 i' j' = if i' = i ∧ j' = j then x else v.1 i' j' := s2_at v i j x
  unfold rowOf
  simp only [key]
  unfold ix
  unfold okc at h
  by_cases h1 : k < 6
  · simp only [h1, if_true]; repeat' split
    all_goals first | rfl | (exfalso; omega) | (congr 1; omega)
  by_cases h2 : k < 9
  · simp only [h1, h2, if_true, if_false]; repeat' split
    all_goals first | rfl | (exfalso; omega)
  by_cases h3 : k < 12
  · simp only [h1, h2, h3, if_true, if_false]; repeat' split
    all_goals first | rfl | (exfalso; omega)
  by_cases h4 : k < 15
  · simp only [h1, h2, h3, h4, if_true, if_false]; repeat' split
    all_goals first | rfl | (exfalso; omega)
  by_cases h5 : k < 16
  · simp only [h1, h2, h3, h4, h5, if_true, if_false]; repeat' split
    all_goals first | rfl | (exfalso; omega)
  by_cases h6 : k < 64
  · simp only [h1, h2, h3, h4, h5, h6, if_true, if_false]; repeat' split
    all_goals first | rfl | (exfalso; omega)
  by_cases h7 : k < 128
  · simp only [h1, h2, h3, h4, h5, h6, h7, if_true, if_false]; repeat' split
    all_goals first | rfl | (exfalso; omega)
  by_cases h8 : k < 192
  · simp only [h1, h2, h3, h4, h5, h6, h7, h8, if_true, if_false]; repeat' split
    all_goals first | rfl | (exfalso; omega)
  by_cases h9 : k < 200
  · simp only [h1, h2, h3, h4, h5, h6, h7, h8, h9, if_true, if_false]; repeat' split
    all_goals first | rfl | (exfalso; omega)
  simp only [h1, h2, h3, h4, h5, h6, h7, h8, h9, if_false]; repeat' split
  all_goals first | rfl | (exfalso; omega)
end
section
/-! what the calls do, as functions of the state -/
def pIn (x lo hi : Int32) : Int32 := if x < lo ∨ hi < x then 0 else 1
theorem pIn_0 {x lo hi : Int32} (h : pIn x lo hi = 0) : x < lo ∨ hi < x := by
  unfold pIn at h
  by_cases q : x < lo ∨ hi < x
  · exact q
  · rw [if_neg q] at h
    exact absurd h (by decide)
theorem pIn_1 {x lo hi : Int32} (h : ¬ pIn x lo hi = 0) : ¬ (x < lo ∨ hi < x) := by
  intro q
  unfold pIn at h
  rw [if_pos q] at h
  exact h rfl
/-- x tells a digit -/
abbrev vD (v : SV) (x : Int32) : Prop := ¬ (x < 0 ∨ v.1 0 0 - 1 < x)
theorem ix_6 (d f : Nat) : (16 : Int32) + 6 * nI d + nI f = nI (16 + 6 * d + f) := by
  rw [show (16 : Int32) = nI 16 from rfl, show (6 : Int32) = nI 6 from rfl, pk_mul, nI_add, nI_add]
theorem pw_nil {D : va_G} {cl : List vw_C} {H : Heap} : va_P D cl [] H := fun k q h => by simp at h
abbrev mR (ct : Nat → ClassId) (h r : Nat) (tl : List Value) (v : SV) : va_W := [(h, .inr (6, .ref r :: tl)), (r, .inl (ct 0, 200, .inl (rowOf v)))]
/-- the lit part of a digit -/
def pLP (v : SV) (d : Nat) : Int32 := (v.1 (4 + d) 1 - v.1 (4 + d) 2) * v.1 (4 + d) 3 / 15
/-- where a slot begins -/
def pBeg (v : SV) : Nat → Int32
  | 0 => 0
  | d + 1 => pBeg v d + v.1 (4 + d) 1
def nOf (v : SV) : Nat := (v.1 0 0).toNatClampNeg
def pLen (v : SV) : Int32 := pBeg v (nOf v)
theorem nI_nle' {a b : Nat} (hb : b < 2 ^ 31) (ha : a < 2 ^ 31) (h : ¬ nI b ≤ nI a) : a < b := by
  rw [nI_leI hb ha] at h
  omega
theorem nI_le' {a b : Nat} (hb : b < 2 ^ 31) (ha : a < 2 ^ 31) (h : nI b ≤ nI a) : b ≤ a := by
  rw [nI_leI hb ha] at h
  omega
end
section
/-! whole numbers within bounds; what holds of every state -/
def rg (x : Int32) (lo hi : Nat) : Prop := ∃ k, lo ≤ k ∧ k ≤ hi ∧ x = nI k
/-- a float that isn't less than 0 and at most the number with the bits B -/
def fr (x B : UInt32) : Prop := Jvm.FP.Core.FFin x ∧ 0 ≤ Jvm.FP.Core.zval Jvm.FP.Core.b32 (Jvm.FP.Core.val32 x) ∧ Jvm.FP.Core.zval Jvm.FP.Core.b32 (Jvm.FP.Core.val32 x) ≤ Jvm.FP.Core.zval Jvm.FP.Core.b32 (Jvm.FP.Core.val32 B)
/-- current and peak at most 32, the charge at most 2 to the 24th -/
def FI (φ : Nat → UInt32) : Prop := fr (φ 0) 1107296256 ∧ fr (φ 1) 1107296256 ∧ fr (φ 2) 1266679808
def Inv (v : SV) : Prop := rg (v.1 0 0) 1 8 ∧
  (∀ d, d < nOf v → rg (v.1 (4 + d) 1) 4 40 ∧ rg (v.1 (4 + d) 2) 0 3 ∧ rg (v.1 (4 + d) 3) 0 15 ∧ rg (v.1 (4 + d) 4) 0 3 ∧ rg (v.1 (4 + d) 0) 0 255 ∧ rg (v.1 (4 + d) 6) 0 255) ∧
  (∀ g, 0 < g → g < 4 → rg (v.1 1 g) 1 50 ∧ rg (v.1 2 g) 0 50) ∧ (v.1 1 0 = 0 ∧ v.1 2 0 = 0) ∧ rg (v.1 3 0) 2 50 ∧
  (∃ t L, v.1 0 3 = nI t ∧ pLen v = nI L ∧ t < L ∧ L ≤ 320) ∧ rg (v.1 0 4) 0 50 ∧ FI v.2
theorem rg.ne0 {x : Int32} {lo hi : Nat} (h : rg x lo hi) (h1 : 0 < lo) (h2 : hi < 2 ^ 31) : ¬ x = 0 := by
  obtain ⟨k, a, b, rfl⟩ := h
  exact nI_ne0 (by omega) (by omega)
theorem rg.nn {x : Int32} {lo hi : Nat} (h : rg x lo hi) (h2 : hi < 2 ^ 31) : ¬ x < 0 := by
  obtain ⟨k, a, b, rfl⟩ := h
  exact nI_pos (by omega)
theorem Inv.n {v : SV} (h : Inv v) : 1 ≤ nOf v ∧ nOf v ≤ 8 ∧ v.1 0 0 = nI (nOf v) := by
  obtain ⟨⟨k, a, b, e⟩, -⟩ := h
  have e2 : nOf v = k := by unfold nOf; rw [e]; exact nI_clamp (by omega)
  rw [e2]
  exact ⟨a, b, e⟩
theorem Inv.n8 {v : SV} (h : Inv v) : nOf v ≤ 8 := h.n.2.1
theorem Inv.n1 {v : SV} (h : Inv v) : 1 ≤ nOf v := h.n.1
theorem Inv.cnt {v : SV} (h : Inv v) : v.1 0 0 = nI (nOf v) := h.n.2.2
theorem Inv.dg {v : SV} (h : Inv v) {d : Nat} (hd : d < nOf v) : rg (v.1 (4 + d) 1) 4 40 ∧ rg (v.1 (4 + d) 2) 0 3 ∧ rg (v.1 (4 + d) 3) 0 15 ∧ rg (v.1 (4 + d) 4) 0 3 ∧ rg (v.1 (4 + d) 0) 0 255 ∧ rg (v.1 (4 + d) 6) 0 255 := h.2.1 d hd
theorem Inv.gr {v : SV} (h : Inv v) {d : Nat} (hd : d < nOf v) : ∃ g, g < 4 ∧ v.1 (4 + d) 4 = nI g := by
  obtain ⟨k, -, b, e⟩ := (h.dg hd).2.2.2.1
  exact ⟨k, by omega, e⟩
theorem Inv.tick {v : SV} (h : Inv v) : v.1 0 3 < pLen v := by
  obtain ⟨t, L, e1, e2, h1, h2⟩ := h.2.2.2.2.2.1
  rw [e1, e2]
  exact nI_lt h1 (by omega)
theorem Inv.dec {v : SV} (h : Inv v) : ¬ v.1 3 0 = 0 := h.2.2.2.2.1.ne0 (by decide) (by decide)
theorem Inv.per {v : SV} (h : Inv v) {g : Nat} (h0 : 0 < g) (h4 : g < 4) : ¬ v.1 1 g + v.1 2 g = 0 := by
  obtain ⟨⟨a, a1, a2, e1⟩, ⟨b, b1, b2, e2⟩⟩ := h.2.2.1 g h0 h4
  rw [e1, e2, nI_add]
  exact nI_ne0 (by omega) (by omega)
/-- the slot of the next tick -/
def pSlotF (v : SV) : Nat → Nat → Nat
  | 0, d => d
  | k + 1, d => if v.1 0 3 < pBeg v (d + 1) then d else pSlotF v k (d + 1)
def pSlot (v : SV) : Nat := pSlotF v 8 0
theorem pSlot_exit {v : SV} {i : Nat} (hi : i < 8) (h : v.1 0 3 < pBeg v (i + 1)) : pSlotF v (8 - i) i = i := by
  rw [show 8 - i = (7 - i) + 1 by omega]
  show (if _ then _ else _) = _
  rw [if_pos h]
theorem pSlot_next {v : SV} {i : Nat} (hi : i < 8) (h : ¬ v.1 0 3 < pBeg v (i + 1)) : pSlotF v (8 - i) i = pSlotF v (8 - (i + 1)) (i + 1) := by
  rw [show 8 - i = (8 - (i + 1)) + 1 by omega]
  show (if _ then _ else _) = _
  rw [if_neg h]
/-- the slot lies within the digits -/
theorem pSlot_lt {v : SV} (h8 : nOf v ≤ 8) (h1 : 1 ≤ nOf v) (ht : v.1 0 3 < pLen v) : pSlot v < nOf v ∧ v.1 0 3 < pBeg v (pSlot v + 1) := by
  have key : ∀ k i, k = nOf v - i → i < nOf v → pSlotF v (8 - i) i < nOf v ∧ v.1 0 3 < pBeg v (pSlotF v (8 - i) i + 1) := by
    intro k
    induction k with
    | zero => intro i h2 h3; omega
    | succ k ih =>
      intro i h2 h3
      by_cases q : v.1 0 3 < pBeg v (i + 1)
      · rw [pSlot_exit (by omega) q]
        exact ⟨h3, q⟩
      · rw [pSlot_next (by omega) q]
        by_cases z : i + 1 < nOf v
        · exact ih (i + 1) (by omega) z
        · have e : i + 1 = nOf v := by omega
          rw [e] at q
          exact absurd ht q
  exact key (nOf v) 0 (by omega) (by omega)
theorem Inv.slot {v : SV} (h : Inv v) : pSlot v < nOf v := (pSlot_lt h.n8 h.n1 h.tick).1
theorem Inv.slot8 {v : SV} (h : Inv v) : pSlot v < 8 := Nat.lt_of_lt_of_le h.slot h.n8
/-- whether a group is on -/
abbrev pOn (v : SV) (g : Nat) : Prop := g = 0 ∨ v.1 0 2 - v.1 0 2 / (v.1 1 g + v.1 2 g) * (v.1 1 g + v.1 2 g) < v.1 1 g
abbrev gOf (v : SV) (d : Nat) : Nat := (v.1 (4 + d) 4).toNatClampNeg
/-- whether a digit would be driven, were it its slot -/
abbrev pDrv (v : SV) (d : Nat) : Prop := (0 < v.1 0 4 ∧ v.1 0 3 - pBeg v d < v.1 (4 + d) 1 - v.1 (4 + d) 2) ∨ (¬ 0 < v.1 0 4 ∧ v.1 0 3 - pBeg v d < pLP v d ∧ pOn v (gOf v d))
/-- the segments of a digit that are lit in the next tick -/
def pLit (v : SV) (d : Nat) : Int32 := if pSlot v = d ∧ pDrv v d then (if 0 < v.1 0 4 then 255 else v.1 (4 + d) 0) &&& (v.1 (4 + d) 6 ^^^ -1) else 0
def pDin (v : SV) (g : Int32) : Nat → Int32
  | 0 => 0
  | d + 1 => pDin v g d + (if v.1 (4 + d) 4 = g then 1 else 0)
def bit (x : Int32) (k : Nat) : Int32 := (x >>> (nI k &&& 31)) &&& 1
def pBro (b : Int32) : Nat → Int32
  | 0 => 0
  | k + 1 => pBro b k + bit b k
def pBroS (v : SV) : Nat → Int32
  | 0 => 0
  | d + 1 => pBroS v d + pBro (v.1 (4 + d) 6) 8
def pSeen (f : Nat → Int32) (th : Int32) : Nat → Int32
  | 0 => 0
  | k + 1 => pSeen f th k ||| (if f k < th then 0 else (1 : Int32) <<< (nI k &&& 31))
def pSum (f : Nat → Int32) : Nat → Int32
  | 0 => 0
  | k + 1 => pSum f k + f k
def pGain (g : Int32) : Int32 := if 1 ≤ (1000 - g) / 4 then (1000 - g) / 4 else 1
def pBri (g : Int32) : Int32 := if g + pGain g ≤ 1000 then g + pGain g else 1000
def pDar (g dec : Int32) : Int32 := if 0 ≤ g - g / dec - 1 then g - g / dec - 1 else 0
/-- the pattern of a character, or -4 -/
def pPat (x : Int32) : Int32 :=
  if x = 48 then 63 else if x = 49 then 6 else if x = 50 then 91 else if x = 51 then 79 else if x = 52 then 102 else if x = 53 then 109 else if x = 54 then 125 else if x = 55 then 7 else
  if x = 56 then 127 else if x = 57 then 111 else if x = 45 then 64 else if x = 32 then 0 else if x = 69 then 121 else if x = 114 then 80 else if x = 111 then 92 else -4
/-- the first character of a pattern, from a code on, or -4 -/
def pChrF (q : Int32) : Nat → Nat → Int32
  | 0, _ => -4
  | k + 1, c => if pPat (nI c) = q then nI c else pChrF q k (c + 1)
def pChr (q : Int32) : Int32 := pChrF q 95 32
theorem ix_a (a b : Nat) (x : Int32) (h : x = nI a) : x + nI b = nI (a + b) := by rw [h, nI_add]
theorem ix_m1 (a b : Nat) (x : Int32) (h : x = nI (a + 1)) : x + nI b - 1 = nI (a + b) := by
  rw [h, nI_add, show a + 1 + b = (a + b) + 1 by omega, nI_pred]
theorem ix_8 (a d f : Nat) (x : Int32) (h : x = nI a) : x + 8 * nI d + nI f = nI (a + 8 * d + f) := by
  rw [h, show (8 : Int32) = nI 8 from rfl, pk_mul, nI_add, nI_add]
theorem i_not_lt {x y : Int32} (h : ¬ x < y) : y ≤ x := Int32.not_lt.mp h
theorem i_not_le {x y : Int32} (h : ¬ x ≤ y) : y < x := Int32.not_le.mp h
end
section
/-! a tick, as a function of the state -/
theorem SV_ext {v w : SV} (h1 : ∀ i j, v.1 i j = w.1 i j) (h2 : v.2 = w.2) : v = w := by
  obtain ⟨c, f⟩ := v
  obtain ⟨c', f'⟩ := w
  have h3 : c = c' := funext (fun i => funext (fun j => h1 i j))
  have h4 : f = f' := h2
  rw [h3, h4]
theorem sC_at (v : SV) (i : Nat) (f : Nat → Int32) (i' j' : Nat) : (sC v i f).1 i' j' = if i' = i then f j' else v.1 i' j' := by
  unfold sC va_up
  by_cases h : i' = i
  · simp [h]
  · simp [h]
theorem sC_s2 (v : SV) (i j : Nat) (f : Nat → Int32) (x : Int32) : s2 (sC v i f) i j x = sC v i (upd f j x) := by
  refine SV_ext (fun i' j' => ?_) rfl
  rw [s2_at, sC_at, sC_at]
  unfold upd
  by_cases h : i' = i
  · subst h; simp
  · simp [h]
theorem sC_self (v : SV) (i : Nat) : sC v i (v.1 i) = v := by
  refine SV_ext (fun i' j' => ?_) rfl
  rw [sC_at]
  by_cases h : i' = i
  · subst h; simp
  · simp [h]
theorem sC_sC (v : SV) (i : Nat) (f g : Nat → Int32) : sC (sC v i f) i g = sC v i g := by
  refine SV_ext (fun i' j' => ?_) rfl
  rw [sC_at, sC_at, sC_at]
  by_cases h : i' = i
  · simp [h]
  · simp [h]
theorem sC_comm (v : SV) {i k : Nat} (h : i ≠ k) (f g : Nat → Int32) : sC (sC v i f) k g = sC (sC v k g) i f := by
  refine SV_ext (fun i' j' => ?_) rfl
  rw [sC_at, sC_at, sC_at, sC_at]
  by_cases h1 : i' = i
  · subst h1; simp [h]
  · simp [h1]
theorem sC_ne (v : SV) {i k : Nat} (h : k ≠ i) (f : Nat → Int32) : (sC v i f).1 k = v.1 k := va_up_ne _ _ h
theorem sC_eq (v : SV) (i : Nat) (f : Nat → Int32) : (sC v i f).1 i = f := va_up_self _ _ _
/-! writes into the row -/
theorem row_up0 (v : SV) {j : Nat} (h : j < 6) (x : Int32) : upd (rowOf v) j x = rowOf (sC v 0 (upd (v.1 0) j x)) := row_upd v (i := 0) (j := j) (Or.inl ⟨rfl, h⟩) x
theorem row_up1 (v : SV) {g : Nat} (h0 : 0 < g) (h : g < 4) (x : Int32) : upd (rowOf v) (8 + g) x = rowOf (s2 v 1 g x) := row_upd v (i := 1) (j := g) (Or.inr (Or.inl ⟨rfl, h0, h⟩)) x
theorem row_up2 (v : SV) {g : Nat} (h0 : 0 < g) (h : g < 4) (x : Int32) : upd (rowOf v) (11 + g) x = rowOf (s2 v 2 g x) := row_upd v (i := 2) (j := g) (Or.inr (Or.inr (Or.inl ⟨rfl, h0, h⟩))) x
theorem row_up3 (v : SV) {k : Nat} (h : k < 3) (x : Int32) : upd (rowOf v) (6 + k) x = rowOf (s2 v 3 k x) := row_upd v (i := 3) (j := k) (Or.inr (Or.inr (Or.inr (Or.inl ⟨rfl, h⟩)))) x
theorem row_upF (v : SV) {d f : Nat} (hd : d < 8) (hf : f < 6) (x : Int32) : upd (rowOf v) (16 + 6 * d + f) x = rowOf (s2 v (4 + d) f x) := by
  have h := row_upd v (i := 4 + d) (j := f) (Or.inr (Or.inr (Or.inr (Or.inr (Or.inl ⟨by omega, by omega, by omega⟩))))) x
  unfold ix at h
  rw [if_neg (by omega), if_neg (by omega), if_neg (by omega), if_neg (by omega), if_pos (by omega), if_neg (by omega), show 4 + d - 4 = d by omega] at h
  exact h
theorem row_upB (v : SV) {d : Nat} (hd : d < 8) (x : Int32) : upd (rowOf v) (192 + d) x = rowOf (s2 v (4 + d) 6 x) := by
  have h := row_upd v (i := 4 + d) (j := 6) (Or.inr (Or.inr (Or.inr (Or.inr (Or.inl ⟨by omega, by omega, by omega⟩))))) x
  unfold ix at h
  rw [if_neg (by omega), if_neg (by omega), if_neg (by omega), if_neg (by omega), if_pos (by omega), if_pos rfl, show 4 + d - 4 = d by omega] at h
  exact h
theorem row_upG (v : SV) {d k : Nat} (hd : d < 8) (hk : k < 8) (x : Int32) : upd (rowOf v) (64 + 8 * d + k) x = rowOf (s2 v (12 + d) k x) := by
  have h := row_upd v (i := 12 + d) (j := k) (Or.inr (Or.inr (Or.inr (Or.inr (Or.inr ⟨by omega, by omega, hk⟩))))) x
  unfold ix at h
  rw [if_neg (by omega), if_neg (by omega), if_neg (by omega), if_neg (by omega), if_neg (by omega), if_pos (by omega), show 12 + d - 12 = d by omega] at h
  exact h
theorem row_upU (v : SV) {d k : Nat} (hd : d < 8) (hk : k < 8) (x : Int32) : upd (rowOf v) (128 + 8 * d + k) x = rowOf (s2 v (20 + d) k x) := by
  have h := row_upd v (i := 20 + d) (j := k) (Or.inr (Or.inr (Or.inr (Or.inr (Or.inr ⟨by omega, by omega, hk⟩))))) x
  unfold ix at h
  rw [if_neg (by omega), if_neg (by omega), if_neg (by omega), if_neg (by omega), if_neg (by omega), if_neg (by omega), show 20 + d - 20 = d by omega] at h
  exact h
theorem row_congr {v w : SV} (h : ∀ i j, okc i j → v.1 i j = w.1 i j) : rowOf v = rowOf w := by
  funext j
  unfold rowOf
  unfold okc at h
  by_cases h1 : j < 6
  · rw [if_pos h1, if_pos h1]; exact h _ _ (by omega)
  rw [if_neg h1, if_neg h1]
  by_cases h2 : j < 9
  · rw [if_pos h2, if_pos h2]; exact h _ _ (by omega)
  rw [if_neg h2, if_neg h2]
  by_cases h3 : j < 12
  · rw [if_pos h3, if_pos h3]; exact h _ _ (by omega)
  rw [if_neg h3, if_neg h3]
  by_cases h4 : j < 15
  · rw [if_pos h4, if_pos h4]; exact h _ _ (by omega)
  rw [if_neg h4, if_neg h4]
  by_cases h5 : j < 16
  · rw [if_pos h5, if_pos h5]
  rw [if_neg h5, if_neg h5]
  by_cases h6 : j < 64
  · rw [if_pos h6, if_pos h6]; exact h _ _ (by omega)
  rw [if_neg h6, if_neg h6]
  by_cases h7 : j < 128
  · rw [if_pos h7, if_pos h7]; exact h _ _ (by omega)
  rw [if_neg h7, if_neg h7]
  by_cases h8 : j < 192
  · rw [if_pos h8, if_pos h8]; exact h _ _ (by omega)
  rw [if_neg h8, if_neg h8]
  by_cases h9 : j < 200
  · rw [if_pos h9, if_pos h9]; exact h _ _ (by omega)
  rw [if_neg h9, if_neg h9]
/-! new digits, new segments -/
def zF (f : Nat → Int32) (i : Nat) : Nat → Int32 := fun j => if j < i then 0 else f j
theorem zF_0 (f : Nat → Int32) : zF f 0 = f := by funext j; unfold zF; rw [if_neg (by omega)]
theorem zF_s (f : Nat → Int32) (i : Nat) : upd (zF f i) i 0 = zF f (i + 1) := by
  funext j
  unfold upd zF
  by_cases h : j = i
  · subst h; rw [if_pos rfl, if_pos (by omega)]
  · rw [if_neg h]
    by_cases h2 : j < i
    · rw [if_pos h2, if_pos (by omega)]
    · rw [if_neg h2, if_neg (by omega)]
theorem zF_8 (f : Nat → Int32) : ∀ j, j < 8 → zF f 8 j = (fun _ => (0 : Int32)) j := fun j h => by unfold zF; rw [if_pos h]
def pRen (v : SV) (d : Nat) : SV := sC (sC (s2 v (4 + d) 6 0) (12 + d) (fun _ => 0)) (20 + d) (fun _ => 0)
def pRenK (v : SV) (d i : Nat) : SV := sC (sC (s2 v (4 + d) 6 0) (12 + d) (zF (v.1 (12 + d)) i)) (20 + d) (zF (v.1 (20 + d)) i)
def dFirst : Nat → Int32 := fun j => if j = 1 then 10 else if j = 2 then 1 else if j = 3 then 15 else 0
def pNew (v : SV) (d : Nat) : SV := sC (sC (sC v (4 + d) dFirst) (12 + d) (fun _ => 0)) (20 + d) (fun _ => 0)
def pEndF (f : Nat → Int32) : Nat → Int32 := upd (upd (upd f 2 (f 2 + 1)) 3 0) 4 (f 4 - (if 0 < f 4 then 1 else 0))
def pEnd (v : SV) : SV := sC v 0 (pEndF (v.1 0))
/-! the lights of one digit: its fields, its glow, its use -/
abbrev F3 : Type := (Nat → Int32) × (Nat → Int32) × (Nat → Int32)
def dStep (b : Bool) (dec life : Int32) (k : Nat) (t : F3) : F3 :=
  (if b = true ∧ life ≤ t.2.2 k + 1 then upd t.1 6 (t.1 6 ||| (1 : Int32) <<< (nI k &&& 31)) else t.1,
   upd t.2.1 k (if b = true then pBri (t.2.1 k) else pDar (t.2.1 k) dec),
   if b = true then upd t.2.2 k (t.2.2 k + 1) else t.2.2)
def dRun (lit dec life : Int32) (t : F3) : Nat → F3
  | 0 => t
  | k + 1 => dStep (decide (bit lit k = 1)) dec life k (dRun lit dec life t k)
def dTri (v : SV) (d : Nat) : F3 := (v.1 (4 + d), v.1 (12 + d), v.1 (20 + d))
def sTri (v : SV) (d : Nat) (t : F3) : SV := sC (sC (sC v (4 + d) t.1) (12 + d) t.2.1) (20 + d) t.2.2
/-- the digit d behind the first k segments -/
def pDigK (v : SV) (lit : Int32) (d k : Nat) : SV := sTri v d (dRun lit (v.1 3 0) (v.1 3 2) (dTri v d) k)
def pDig (v : SV) (lit : Int32) (d : Nat) : SV := pDigK v lit d 8
def pAll (v : SV) (now : Nat) (lit : Int32) : Nat → SV
  | 0 => v
  | d + 1 => pDig (pAll v now lit d) (if d = now then lit else 0) d
/-- the floats behind a tick -/
def pCur (x : UInt32) (n : Int32) : UInt32 := FP.fadd x (FP.fmul (FP.fsub (FP.fmul (FP.i2f n) 1075838976) x) 1040187392)
def pPk (x y : UInt32) : UInt32 := if Op.cmpValue (FP.fcmp x y) CmpOp.l ≤ 0 then y else x
def pChg (z x : UInt32) : UInt32 := FP.fadd z (FP.fmul x 981668463)
def pFlo (φ : Nat → UInt32) (n : Int32) : Nat → UInt32 := vf_upd (vf_upd (vf_upd φ 0 (pCur (φ 0) n)) 1 (pPk (pCur (φ 0) n) (φ 1))) 2 (pChg (φ 2) (pCur (φ 0) n))
def pTk1 (v : SV) : SV := if pDrv v (pSlot v) then s2 (s2 v 0 5 (v.1 0 5 + 1)) (4 + pSlot v) 5 (v.1 (4 + pSlot v) 5 + 1) else v
def pTk2 (v : SV) : SV := pAll (pTk1 v) (pSlot v) (pLit v (pSlot v)) (nOf v)
def pTickN (v : SV) : Int32 := pBro (pLit v (pSlot v)) 8
def pTk3 (v : SV) : SV := (va_up (pTk2 v).1 0 (upd (upd ((pTk2 v).1 0) 1 ((pTk2 v).1 0 1 + 1)) 3 ((pTk2 v).1 0 3 + 1)), pFlo v.2 (pTickN v))
def pTick (v : SV) : SV := if (pTk3 v).1 0 3 = pLen v then pEnd (pTk3 v) else pTk3 v
abbrev mT (ct : Nat → ClassId) (h r f : Nat) (tl : List Value) (v : SV) : va_W := [(h, .inr (6, .ref r :: .ref f :: tl)), (r, .inl (ct 0, 200, .inl (rowOf v))), (f, .inl (ct 1, 3, .inr (.inr (.inl v.2))))]
theorem mT_R {D : va_G} {ct : Nat → ClassId} {h r f : Nat} {tl : List Value} {v : SV} {H : Heap} (hP : va_P D vwCl (mT ct h r f tl v) H) : va_P D vwCl (mR ct h r (.ref f :: tl) v) H :=
  pw_left (a := mR ct h r (.ref f :: tl) v) (b := [(f, .inl (ct 1, 3, .inr (.inr (.inl v.2))))]) hP
theorem mT_D {A : Nat → Prop} {ct : Nat → ClassId} {h r f : Nat} {tl : List Value} {v : SV} (hD : va_D A (mT ct h r f tl v)) : va_D A (mR ct h r (.ref f :: tl) v) :=
  dw_left (a := mR ct h r (.ref f :: tl) v) (b := [(f, .inl (ct 1, 3, .inr (.inr (.inl v.2))))]) hD
theorem mR_fn {D : va_G} {ct : Nat → ClassId} {h r : Nat} {tl : List Value} {w : SV} {H : Heap} {g : Nat → Int32} (e : g = rowOf w) (hP : va_P D vwCl [(h, .inr (6, .ref r :: tl)), (r, .inl (ct 0, 200, .inl g))] H) : va_P D vwCl (mR ct h r tl w) H := by subst e; exact hP
theorem mT_fn {D : va_G} {ct : Nat → ClassId} {h r f : Nat} {tl : List Value} {w : SV} {H : Heap} {g : Nat → Int32} {φ : Nat → UInt32} (e : g = rowOf w) (e2 : φ = w.2) (hP : va_P D vwCl [(h, .inr (6, .ref r :: .ref f :: tl)), (r, .inl (ct 0, 200, .inl g)), (f, .inl (ct 1, 3, .inr (.inr (.inl φ))))] H) : va_P D vwCl (mT ct h r f tl w) H := by subst e; subst e2; exact hP
theorem zF_at (f : Nat → Int32) (i j : Nat) : zF f (i + 1) j = if j = i then 0 else zF f i j := by rw [← zF_s]; rfl
theorem pRenK_0 (v : SV) (d : Nat) : rowOf (s2 v (4 + d) 6 0) = rowOf (pRenK v d 0) := by
  refine row_congr (fun i j _ => ?_)
  unfold pRenK
  simp only [sC_at, s2_at, zF_0]
  by_cases h1 : i = 20 + d
  · subst h1; rw [if_pos rfl, if_neg (by omega)]
  · rw [if_neg h1]
    by_cases h2 : i = 12 + d
    · subst h2; rw [if_pos rfl, if_neg (by omega)]
    · rw [if_neg h2]
theorem pRenK_s (v : SV) (d k : Nat) : rowOf (s2 (s2 (pRenK v d k) (12 + d) k 0) (20 + d) k 0) = rowOf (pRenK v d (k + 1)) := by
  refine row_congr (fun i j _ => ?_)
  unfold pRenK
  simp only [sC_at, s2_at, zF_at]
  by_cases h1 : i = 20 + d
  · subst h1
    by_cases h3 : j = k
    · subst h3; rw [if_pos ⟨rfl, rfl⟩, if_pos rfl, if_pos rfl]
    · rw [if_neg (fun q => h3 q.2), if_neg (fun q => h3 q.2), if_pos rfl, if_pos rfl, if_neg h3]
  · rw [if_neg (fun q => h1 q.1), if_neg h1]
    by_cases h2 : i = 12 + d
    · subst h2
      by_cases h3 : j = k
      · subst h3; rw [if_pos ⟨rfl, rfl⟩, if_neg h1, if_pos rfl, if_pos rfl]
      · rw [if_neg (fun q => h3 q.2), if_neg h1, if_pos rfl, if_pos rfl, if_neg h3]
    · rw [if_neg (fun q => h2 q.1), if_neg h1, if_neg h2, if_neg h2]
theorem pRenK_8 (v : SV) (d k : Nat) (hd : d < 8) (hk : k = 8) : rowOf (pRenK v d k) = rowOf (pRen v d) := by
  subst hk
  refine row_congr (fun i j hj => ?_)
  unfold pRenK pRen
  simp only [sC_at, s2_at]
  unfold okc at hj
  by_cases h1 : i = 20 + d
  · rw [if_pos h1, if_pos h1]; exact zF_8 _ _ (by omega)
  · rw [if_neg h1, if_neg h1]
    by_cases h2 : i = 12 + d
    · rw [if_pos h2, if_pos h2]; exact zF_8 _ _ (by omega)
    · rw [if_neg h2, if_neg h2]
theorem pNew_of (v : SV) (d : Nat) (hd : d < 8) : rowOf (pRen (s2 (s2 (s2 (s2 (s2 (s2 v (4 + d) 0 0) (4 + d) 1 10) (4 + d) 2 1) (4 + d) 3 15) (4 + d) 4 0) (4 + d) 5 0) d) = rowOf (pNew v d) := by
  refine row_congr (fun i j hj => ?_)
  unfold pRen pNew
  simp only [sC_at, s2_at]
  unfold okc at hj
  by_cases h1 : i = 20 + d
  · rw [if_pos h1, if_pos h1]
  · rw [if_neg h1, if_neg h1]
    by_cases h2 : i = 12 + d
    · rw [if_pos h2, if_pos h2]
    · rw [if_neg h2, if_neg h2]
      by_cases h3 : i = 4 + d
      · subst h3
        simp only [true_and, if_true]
        unfold dFirst
        have hj7 : j < 7 := by omega
        match j, hj7 with
        | 0, _ => rfl
        | 1, _ => rfl
        | 2, _ => rfl
        | 3, _ => rfl
        | 4, _ => rfl
        | 5, _ => rfl
        | 6, _ => rfl
      · simp [h3]
theorem bit01 (x : Int32) (k : Nat) : bit x k = 0 ∨ bit x k = 1 := by
  unfold bit
  have h := pk_and (x >>> (nI k &&& 31)) (m := 1) 1 (by decide)
  rw [h]
  have h2 : (x >>> (nI k &&& 31)).toBitVec.toNat % 2 ^ 1 < 2 := Nat.mod_lt _ (by decide)
  rcases (show (x >>> (nI k &&& 31)).toBitVec.toNat % 2 ^ 1 = 0 ∨ (x >>> (nI k &&& 31)).toBitVec.toNat % 2 ^ 1 = 1 by omega) with h3 | h3
  · rw [h3]; exact Or.inl rfl
  · rw [h3]; exact Or.inr rfl
theorem sTri_self (v : SV) (d : Nat) : sTri v d (dTri v d) = v := by
  refine SV_ext (fun i j => ?_) rfl
  unfold sTri dTri
  simp only [sC_at]
  by_cases h1 : i = 20 + d
  · subst h1; rw [if_pos rfl]
  · rw [if_neg h1]
    by_cases h2 : i = 12 + d
    · subst h2; rw [if_pos rfl]
    · rw [if_neg h2]
      by_cases h3 : i = 4 + d
      · subst h3; rw [if_pos rfl]
      · rw [if_neg h3]
theorem dTri_sTri (v : SV) (d : Nat) (t : F3) : dTri (sTri v d t) d = t := by
  unfold dTri sTri
  rw [sC_ne _ (by omega), sC_ne _ (by omega), sC_eq, sC_ne _ (by omega), sC_eq, sC_eq]
theorem sTri_sTri (v : SV) (d : Nat) (t t' : F3) : sTri (sTri v d t) d t' = sTri v d t' := by
  refine SV_ext (fun i j => ?_) rfl
  unfold sTri
  simp only [sC_at]
  by_cases h1 : i = 20 + d
  · simp only [h1, if_true]
  · by_cases h2 : i = 12 + d
    · simp only [h1, h2, if_true, if_false]
    · by_cases h3 : i = 4 + d
      · simp only [h1, h2, h3, if_true, if_false]
      · simp only [h1, h2, h3, if_false]
theorem sTri_lo (v : SV) (d : Nat) (t : F3) {i : Nat} (h : i < 4) : (sTri v d t).1 i = v.1 i := by
  unfold sTri
  rw [sC_ne _ (by omega), sC_ne _ (by omega), sC_ne _ (by omega)]
theorem pDigK_lo (v : SV) (lit : Int32) (d k : Nat) {i : Nat} (h : i < 4) : (pDigK v lit d k).1 i = v.1 i := sTri_lo _ _ _ h
theorem pDigK_s (v : SV) (lit : Int32) (d k : Nat) (b : Bool) (hb : b = decide (bit lit k = 1)) :
    sTri (pDigK v lit d k) d (dStep b ((pDigK v lit d k).1 3 0) ((pDigK v lit d k).1 3 2) k (dTri (pDigK v lit d k) d)) = pDigK v lit d (k + 1) := by
  rw [pDigK_lo v lit d k (i := 3) (by decide)]
  unfold pDigK
  rw [dTri_sTri, sTri_sTri, hb]
  rfl
theorem pAll_lo (v : SV) (now : Nat) (lit : Int32) {i : Nat} (h : i < 4) : ∀ d, (pAll v now lit d).1 i = v.1 i := by
  intro d
  induction d with
  | zero => rfl
  | succ d ih => exact (pDigK_lo _ _ _ _ h).trans ih
theorem pAll_f (v : SV) (now : Nat) (lit : Int32) : ∀ d, (pAll v now lit d).2 = v.2 := by
  intro d
  induction d with
  | zero => rfl
  | succ d ih => exact ih
theorem pTk1_3 (v : SV) : (pTk1 v).1 3 = v.1 3 := by
  unfold pTk1
  by_cases h : pDrv v (pSlot v)
  · rw [if_pos h]
    funext j
    rw [s2_at, if_neg (by omega), s2_at, if_neg (by omega)]
  · rw [if_neg h]
theorem pTk1_0 (v : SV) {j : Nat} (h : j < 5) : (pTk1 v).1 0 j = v.1 0 j := by
  unfold pTk1
  by_cases h2 : pDrv v (pSlot v)
  · rw [if_pos h2, s2_at, if_neg (by omega), s2_at, if_neg (by omega)]
  · rw [if_neg h2]
theorem pTk1_f (v : SV) : (pTk1 v).2 = v.2 := by
  unfold pTk1
  by_cases h2 : pDrv v (pSlot v)
  · rw [if_pos h2]; rfl
  · rw [if_neg h2]
theorem pTk1_w (v : SV) {d j : Nat} (hj : j ≠ 5) : (pTk1 v).1 (4 + d) j = v.1 (4 + d) j := by
  unfold pTk1
  by_cases h2 : pDrv v (pSlot v)
  · rw [if_pos h2, s2_at, if_neg (by omega), s2_at, if_neg (by omega)]
  · rw [if_neg h2]
theorem dRun_f (lit dec life : Int32) (t : F3) {j : Nat} (hj : j ≠ 6) : ∀ k, (dRun lit dec life t k).1 j = t.1 j := by
  intro k
  induction k with
  | zero => rfl
  | succ k ih =>
    show (if _ then upd _ 6 _ else _) j = _
    split
    · unfold upd; rw [if_neg hj]; exact ih
    · exact ih
theorem pAll_w (v : SV) (now : Nat) (lit : Int32) {d j : Nat} (hd : d < 8) (hj : j ≠ 6) : ∀ i, (pAll v now lit i).1 (4 + d) j = v.1 (4 + d) j := by
  intro i
  induction i with
  | zero => rfl
  | succ i ih =>
    refine Eq.trans ?_ ih
    show (sTri _ i _).1 (4 + d) j = _
    unfold sTri
    rw [sC_at, if_neg (by omega), sC_at, if_neg (by omega), sC_at]
    by_cases h : d = i
    · subst h
      rw [if_pos rfl, dRun_f _ _ _ _ hj]
      rfl
    · rw [if_neg (by omega)]
theorem pBeg_congr {v w : SV} : ∀ k, (∀ d, d < k → v.1 (4 + d) 1 = w.1 (4 + d) 1) → pBeg v k = pBeg w k := by
  intro k
  induction k with
  | zero => intro _; rfl
  | succ k ih =>
    intro h
    show pBeg v k + _ = pBeg w k + _
    rw [ih (fun d hd => h d (by omega)), h k (by omega)]
theorem pTk2_f (v : SV) : (pTk2 v).2 = v.2 := (pAll_f _ _ _ _).trans (pTk1_f v)
theorem pTk2_0 (v : SV) {j : Nat} (h : j < 5) : (pTk2 v).1 0 j = v.1 0 j := (congrFun (pAll_lo _ _ _ (by decide) _) j).trans (pTk1_0 v h)
theorem pTk2_w (v : SV) {d j : Nat} (hd : d < 8) (h5 : j ≠ 5) (h6 : j ≠ 6) : (pTk2 v).1 (4 + d) j = v.1 (4 + d) j := (pAll_w _ _ _ hd h6 _).trans (pTk1_w v h5)
theorem pTk3_0 (v : SV) : (pTk3 v).1 0 0 = v.1 0 0 := pTk2_0 v (by decide)
theorem pTk3_w (v : SV) {d j : Nat} (hd : d < 8) (h5 : j ≠ 5) (h6 : j ≠ 6) : (pTk3 v).1 (4 + d) j = v.1 (4 + d) j := by
  refine Eq.trans ?_ (pTk2_w v hd h5 h6)
  have h : (pTk3 v).1 (4 + d) = (pTk2 v).1 (4 + d) := va_up_ne _ _ (by omega)
  rw [h]
theorem pTk3_n (v : SV) : nOf (pTk3 v) = nOf v := by unfold nOf; rw [pTk3_0]
theorem pTk3_len {v : SV} (ok : Inv v) : pLen (pTk3 v) = pLen v := by
  unfold pLen
  rw [pTk3_n]
  have h8 := ok.n8
  exact pBeg_congr _ (fun d hd => pTk3_w v (by omega) (by decide) (by decide))
/-! one segment of a digit, in the row -/
theorem light_0 (v : SV) {d k : Nat} (b : Bool) (hb : b = false) : rowOf (s2 v (12 + d) k (pDar (v.1 (12 + d) k) (v.1 3 0))) = rowOf (sTri v d (dStep b (v.1 3 0) (v.1 3 2) k (dTri v d))) := by
  subst hb
  refine row_congr (fun i j _ => ?_)
  unfold sTri dStep dTri
  simp only [sC_at, s2_at]
  by_cases h1 : i = 20 + d
  · subst h1; simp
  · by_cases h2 : i = 12 + d
    · subst h2
      simp [upd]
    · by_cases h3 : i = 4 + d
      · subst h3; simp
      · simp [h1, h2, h3]
theorem light_1 (v : SV) {d k : Nat} (b : Bool) (hb : b = true) (hl : ¬ v.1 3 2 ≤ v.1 (20 + d) k + 1) : rowOf (s2 (s2 v (12 + d) k (pBri (v.1 (12 + d) k))) (20 + d) k (v.1 (20 + d) k + 1)) = rowOf (sTri v d (dStep b (v.1 3 0) (v.1 3 2) k (dTri v d))) := by
  subst hb
  refine row_congr (fun i j _ => ?_)
  unfold sTri dStep dTri
  simp only [sC_at, s2_at]
  by_cases h1 : i = 20 + d
  · subst h1; simp [upd]
  · by_cases h2 : i = 12 + d
    · subst h2
      simp [upd]
    · by_cases h3 : i = 4 + d
      · subst h3; simp [hl]
      · simp [h1, h2, h3]
theorem light_2 (v : SV) {d k : Nat} (b : Bool) (hb : b = true) (hl : v.1 3 2 ≤ v.1 (20 + d) k + 1) : rowOf (s2 (s2 (s2 v (12 + d) k (pBri (v.1 (12 + d) k))) (20 + d) k (v.1 (20 + d) k + 1)) (4 + d) 6 (v.1 (4 + d) 6 ||| (1 : Int32) <<< (nI k &&& 31))) = rowOf (sTri v d (dStep b (v.1 3 0) (v.1 3 2) k (dTri v d))) := by
  subst hb
  refine row_congr (fun i j _ => ?_)
  unfold sTri dStep dTri
  simp only [sC_at, s2_at]
  by_cases h1 : i = 20 + d
  · subst h1; simp [upd]
  · by_cases h2 : i = 12 + d
    · subst h2
      simp [upd]
    · by_cases h3 : i = 4 + d
      · subst h3; simp [hl, upd]
      · simp [h1, h2, h3]
theorem dw_c {A : Nat → Prop} {ws ws' : va_W} (h : va_D A ws) (e : ws'.map Prod.fst = ws.map Prod.fst) : va_D A ws' := dw_congr e h
end
section
theorem fl_ok {φ : Nat → UInt32} (h : FI φ) {n : Int32} (hn : ∃ k, k ≤ 8 ∧ n = nI k) :
    (vf_n32 (FP.fmul (FP.i2f n) 1075838976) ∧ vf_n32 (FP.fsub (FP.fmul (FP.i2f n) 1075838976) (φ 0)) ∧ vf_n32 (FP.fmul (FP.fsub (FP.fmul (FP.i2f n) 1075838976) (φ 0)) 1040187392) ∧ vf_n32 (pCur (φ 0) n) ∧
    vf_n32 (FP.fmul (pCur (φ 0) n) 981668463) ∧ vf_n32 (pChg (φ 2) (pCur (φ 0) n))) ∧ FI (pFlo φ n) := by
  sorry
theorem pBro_n (b : Int32) : ∀ m, m ≤ 8 → ∃ k, k ≤ m ∧ pBro b m = nI k := by
  intro m
  induction m with
  | zero => intro _; exact ⟨0, by omega, rfl⟩
  | succ m ih =>
    intro hm
    obtain ⟨k, h1, h2⟩ := ih (by omega)
    show ∃ k, k ≤ m + 1 ∧ pBro b m + bit b m = nI k
    rcases bit01 b m with h | h
    · exact ⟨k, by omega, by rw [h, h2]; exact Int32.add_zero _⟩
    · exact ⟨k + 1, by omega, by rw [h, h2]; exact nI_1 k⟩
theorem tickN_n (v : SV) : ∃ k, k ≤ 8 ∧ pTickN v = nI k := pBro_n _ 8 (Nat.le_refl 8)
theorem ix8 (d k : Nat) : (8 : Int32) * nI d + nI k = nI (8 * d + k) := by rw [show (8 : Int32) = nI 8 from rfl, pk_mul, nI_add]
theorem ix_c (a b : Nat) (x : Int32) (h : x = nI a) (m : Nat) (hm : m = a + b) : x + nI b = nI m := by rw [h, nI_add, hm]
theorem row_up0C (v : SV) (F : Nat → Int32) {j : Nat} (h : j < 6) (x : Int32) : upd (rowOf (sC v 0 F)) j x = rowOf (sC v 0 (upd F j x)) := by
  rw [row_up0 _ h, sC_eq, sC_sC]
theorem i2c_nI {n : Nat} (h : n < 65536) : ((nI n).toUInt32 % 65536).toInt32 = nI n := by
  apply Int32.toBitVec_inj.mp
  apply BitVec.eq_of_toNat_eq
  show ((nI n).toUInt32 % 65536).toNat = (nI n).toBitVec.toNat
  rw [UInt32.toNat_mod]
  show (nI n).toBitVec.toNat % 65536 = (nI n).toBitVec.toNat
  rw [pk_tn (by omega)]
  omega
theorem pat_cases (x : Int32) : (x = 32 ∨ x = 45 ∨ x = 48 ∨ x = 49 ∨ x = 50 ∨ x = 51 ∨ x = 52 ∨ x = 53 ∨ x = 54 ∨ x = 55 ∨ x = 56 ∨ x = 57 ∨ x = 69 ∨ x = 111 ∨ x = 114) ∨
    (¬ x = 32 ∧ ¬ x = 45 ∧ ¬ x = 48 ∧ ¬ x = 49 ∧ ¬ x = 50 ∧ ¬ x = 51 ∧ ¬ x = 52 ∧ ¬ x = 53 ∧ ¬ x = 54 ∧ ¬ x = 55 ∧ ¬ x = 56 ∧ ¬ x = 57 ∧ ¬ x = 69 ∧ ¬ x = 111 ∧ ¬ x = 114) := by
  by_cases h : (x = 32 ∨ x = 45 ∨ x = 48 ∨ x = 49 ∨ x = 50 ∨ x = 51 ∨ x = 52 ∨ x = 53 ∨ x = 54 ∨ x = 55 ∨ x = 56 ∨ x = 57 ∨ x = 69 ∨ x = 111 ∨ x = 114)
  · exact Or.inl h
  · exact Or.inr (by simpa only [not_or] using h)
theorem pPat_none {x : Int32} (h : ¬ x = 32 ∧ ¬ x = 45 ∧ ¬ x = 48 ∧ ¬ x = 49 ∧ ¬ x = 50 ∧ ¬ x = 51 ∧ ¬ x = 52 ∧ ¬ x = 53 ∧ ¬ x = 54 ∧ ¬ x = 55 ∧ ¬ x = 56 ∧ ¬ x = 57 ∧ ¬ x = 69 ∧ ¬ x = 111 ∧ ¬ x = 114) : pPat x = -4 := by
  obtain ⟨h1, h2, h3, h4, h5, h6, h7, h8, h9, h10, h11, h12, h13, h14, h15⟩ := h
  unfold pPat
  simp only [h1, h2, h3, h4, h5, h6, h7, h8, h9, h10, h11, h12, h13, h14, h15, if_false]
theorem pChr_hit {q : Int32} {i : Nat} (h1 : i < 127) (h : pPat (nI i) = q) : pChrF q (127 - i) i = nI i := by
  rw [show 127 - i = (126 - i) + 1 by omega]
  show (if _ then _ else _) = _
  rw [if_pos h]
theorem pChr_next {q : Int32} {i : Nat} (h1 : i < 127) (h : ¬ pPat (nI i) = q) : pChrF q (127 - i) i = pChrF q (127 - (i + 1)) (i + 1) := by
  rw [show 127 - i = (127 - (i + 1)) + 1 by omega]
  show (if _ then _ else _) = _
  rw [if_neg h]
/-- the fields behind a tick's count -/
theorem pTk1_pos {v : SV} (h : pDrv v (pSlot v)) : s2 (s2 v 0 5 (v.1 0 5 + 1)) (4 + pSlot v) 5 (v.1 (4 + pSlot v) 5 + 1) = pTk1 v := by unfold pTk1; rw [if_pos h]
theorem pTk1_neg {v : SV} (h : ¬ pDrv v (pSlot v)) : v = pTk1 v := by unfold pTk1; rw [if_neg h]
theorem bit_0 (k : Nat) : bit 0 k = 0 := by
  unfold bit
  rw [show (0 : Int32) >>> (nI k &&& 31) = 0 from Int32.zero_shiftRight]
  rfl
theorem tk_cnt {v : SV} {i : Nat} {x y : Int32} (hx : x = if pSlot v < i then pTickN v else 0) (hy : y = x + (if i = pSlot v then pBro (pLit v (pSlot v)) 8 else 0)) : y = if pSlot v < i + 1 then pTickN v else 0 := by
  subst hx
  rw [hy]
  by_cases h1 : i = pSlot v
  · rw [if_pos h1, if_neg (by omega), if_pos (by omega)]
    exact Int32.zero_add _
  · rw [if_neg h1]
    by_cases h2 : pSlot v < i
    · rw [if_pos h2, if_pos (by omega)]; exact Int32.add_zero _
    · rw [if_neg h2, if_neg (by omega)]; exact Int32.add_zero _
theorem tk_cnt2 {v : SV} {i k : Nat} {x y : Int32} {b : Bool} (hy : y = x + (if i = pSlot v then pBro (pLit v (pSlot v)) k else 0)) (hb : b = decide (bit (if i = pSlot v then pLit v (pSlot v) else 0) k = 1)) :
    y + (if b = true then 1 else 0) = x + (if i = pSlot v then pBro (pLit v (pSlot v)) (k + 1) else 0) := by
  subst hb
  rw [hy]
  by_cases h1 : i = pSlot v
  · rw [if_pos h1, if_pos h1, if_pos h1, Int32.add_assoc]
    congr 1
    show _ = _ + bit _ k
    congr 1
    rcases bit01 (pLit v (pSlot v)) k with h | h
    · rw [h]; rfl
    · rw [h]; rfl
  · rw [if_neg h1, if_neg h1, if_neg h1, bit_0]
    exact Int32.add_zero _
end
section
set_option maxHeartbeats 4000000 in
set_option maxRecDepth 100000 in
theorem k_X6_in (l : Launch) (D : va_G) (ct : Nat → ClassId) (x lo hi : Int32) : Met l yX6_in wsX6_in ({ frames := 0, cells := 0, slots := 0, locals := 0 }) (roP D ct ([]) [.int x, .int lo, .int hi]) (vp_Si (fun r => r = pIn x lo hi)) 0 0 noA := by
  refine Met.ofW (cc := cX6_in) (maxL := 3) (ret := (some .boolean)) (by decide) rfl ?_
  intro p e s m args below meth c s₁ B hml hv
  obtain ⟨rfl, hP, hK, hN⟩ := hv
  have hx := B.exec
  have hb := B.bytes
  have hr := B.returns
  have hts := atoms_spec (ws := wsX6_in) B.pre
  have hown : s.vm.findClass RX6 = some m.cls := findClass_of_methodNamed B.named
  have hlocks := B.notSynchronized
  have hl := lv_entry ([.int x, .int lo, .int hi]) (n := 3) (Nat.le_of_ble_eq_true rfl)
  rw [lg_entry_eq]
  generalize (lg_sl ([.int x, .int lo, .int hi]) ++ List.replicate (3 - (lg_sl ([.int x, .int lo, .int hi])).length) Slot.unset).toArray = ls at hl ⊢
  have hl : lv_has ls 3 [(0, .int x), (1, .int lo), (2, .int hi)] := hl
  refine lv_iload_n hx hb dX6_in_0 rfl (lv_at hl 0 rfl) ?_
  refine lv_iload_n hx hb dX6_in_1 rfl (lv_at hl 1 rfl) ?_
  refine lv_icmp_lt (tgt := 14) hx hb dX6_in_2 (by decide) (fun c_2 => ?_) (fun c_2 => ?_)
  · refine lv_iconst (v := 0) hx hb dX6_in_14 (by decide) ?_
    exact W.zret (v := 0) hx hb hr (by decide) (fun t ht hW => ⟨0, rfl, (if_pos (Or.inl c_2)).symm, ht⟩) (fun q hq => absurd hq List.not_mem_nil) dX6_in_15
  · refine lv_iload_n hx hb dX6_in_5 rfl (lv_at hl 0 rfl) ?_
    refine lv_iload_n hx hb dX6_in_6 rfl (lv_at hl 2 rfl) ?_
    refine lv_icmp_gt (tgt := 14) hx hb dX6_in_7 (by decide) (fun c_7 => ?_) (fun c_7 => ?_)
    · refine lv_iconst (v := 0) hx hb dX6_in_14 (by decide) ?_
      exact W.zret (v := 0) hx hb hr (by decide) (fun t ht hW => ⟨0, rfl, (if_pos (Or.inr c_7)).symm, ht⟩) (fun q hq => absurd hq List.not_mem_nil) dX6_in_15
    · refine lv_iconst (v := 1) hx hb dX6_in_10 (by decide) ?_
      refine lv_goto (tgt := 15) hx hb dX6_in_11 (by decide) ?_
      exact W.zret (v := 1) hx hb hr (by decide) (fun t ht hW => ⟨1, rfl, (if_neg (fun h => h.elim c_2 c_7)).symm, ht⟩) (fun q hq => absurd hq List.not_mem_nil) dX6_in_15

set_option maxHeartbeats 4000000 in
set_option maxRecDepth 100000 in
theorem k_X6_of (l : Launch) (D : va_G) (ct : Nat → ClassId) (h r : Nat) (tl : List Value) (v : SV) (d f : Nat) (hd : d < 8) (hf : f < 6) : Met l yX6_of wsX6_of ({ frames := 0, cells := 0, slots := 0, locals := 0 }) (roP D ct (mR ct h r tl v) [.ref h, .int (nI d), .int (nI f)]) (vp_Si (fun r => r = v.1 (4 + d) f)) 0 0 noA := by
  refine Met.ofW (cc := cX6_of) (maxL := 3) (ret := (some .int)) (by decide) rfl ?_
  intro p e s m args below meth c s₁ B hml hv
  obtain ⟨rfl, hP, hK, hN⟩ := hv
  have hx := B.exec
  have hb := B.bytes
  have hr := B.returns
  have hts := atoms_spec (ws := wsX6_of) B.pre
  have hown : s.vm.findClass RX6 = some m.cls := findClass_of_methodNamed B.named
  have hlocks := B.notSynchronized
  have w_1 := hts (.fieldLink RX6 7 "ScannedDigitsModel" "row" "[I") (List.mem_of_getElem? (i := 1) rfl)
  have hiX6 : ∀ w ∈ wsX60, w ∈ wsX6_of := fun w h => (goodIn_r wsX60 [2, 3, 4, 5, 6, 7, 8, 9, 10, 11, 12, 13, 14] (by decide +kernel) (by decide +kernel) w h).1
  have hl := lv_entry ([.ref h, .int (nI d), .int (nI f)]) (n := 3) (Nat.le_of_ble_eq_true rfl)
  rw [lg_entry_eq]
  generalize (lg_sl ([.ref h, .int (nI d), .int (nI f)]) ++ List.replicate (3 - (lg_sl ([.ref h, .int (nI d), .int (nI f)])).length) Slot.unset).toArray = ls at hl ⊢
  have hl : lv_has ls 3 [(0, .ref h), (1, .int (nI d)), (2, .int (nI f))] := hl
  refine lv_aload_n hx hb dX6_of_0 rfl (lv_at hl 0 rfl) ?_
  refine va_get (D := D) (ci := 6) (v := .ref r) (C := RX6) (T := TX6) (N := 13) hx hb hts hiX6 hown hK hP 0 rfl rfl 0 (by decide) w_1 (fun _ h9 => h9) rfl dX6_of_1 ?_
  refine lv_bipush (v := 16) hx hb dX6_of_4 (by decide) ?_
  refine lv_bipush (v := 6) hx hb dX6_of_6 (by decide) ?_
  refine lv_iload_n hx hb dX6_of_8 rfl (lv_at hl 1 rfl) ?_
  refine lv_imul hx hb dX6_of_9 ?_
  refine lv_iadd hx hb dX6_of_10 ?_
  refine lv_iload_n hx hb dX6_of_11 rfl (lv_at hl 2 rfl) ?_
  refine lv_iadd hx hb dX6_of_12 ?_
  refine r_iald hx hb hK hP 1 0 rfl rfl (k := 16 + 6 * d + f) (ix_6 d f) (by omega) (by decide) dX6_of_13 ?_
  exact W.iret (v := ((rowOf v) (16 + 6 * d + f))) hx hb hr (fun t ht hW => ⟨((rowOf v) (16 + 6 * d + f)), rfl, row_d v hd hf, ht⟩) (fun q hq => absurd hq List.not_mem_nil) dX6_of_14

set_option maxHeartbeats 4000000 in
set_option maxRecDepth 100000 in
theorem k_X6_noDigit (l : Launch) (D : va_G) (ct : Nat → ClassId) (h r : Nat) (tl : List Value) (v : SV) (x : Int32) : Met l yX6_noDigit wsX6_noDigit ({ frames := 1, cells := 0, slots := 0, locals := 22 }) (roP D ct (mR ct h r tl v) [.ref h, .int x]) (vp_Si (fun r => r = if vD v x then 0 else 1)) 0 0 noA := by
  refine Met.ofW (cc := cX6_noDigit) (maxL := 2) (ret := (some .boolean)) (by decide) rfl ?_
  intro p e s m args below meth c s₁ B hml hv
  obtain ⟨rfl, hP, hK, hN⟩ := hv
  have hx := B.exec
  have hb := B.bytes
  have hr := B.returns
  have hts := atoms_spec (ws := wsX6_noDigit) B.pre
  have hown : s.vm.findClass RX6 = some m.cls := findClass_of_methodNamed B.named
  have hlocks := B.notSynchronized
  have w_1 := hts (.fieldLink RX6 7 "ScannedDigitsModel" "row" "[I") (List.mem_of_getElem? (i := 1) rfl)
  have hiX6 : ∀ w ∈ wsX60, w ∈ wsX6_noDigit := fun w h => (goodIn_r wsX60 [6, 7, 8, 9, 10, 11, 12, 13, 14, 15, 16, 17, 18] (by decide +kernel) (by decide +kernel) w h).1
  have hl := lv_entry ([.ref h, .int x]) (n := 2) (Nat.le_of_ble_eq_true rfl)
  rw [lg_entry_eq]
  generalize (lg_sl ([.ref h, .int x]) ++ List.replicate (2 - (lg_sl ([.ref h, .int x])).length) Slot.unset).toArray = ls at hl ⊢
  have hl : lv_has ls 2 [(0, .ref h), (1, .int x)] := hl
  refine lv_iload_n hx hb dX6_noDigit_0 rfl (lv_at hl 1 rfl) ?_
  refine lv_iconst (v := 0) hx hb dX6_noDigit_1 (by decide) ?_
  refine lv_aload_n hx hb dX6_noDigit_2 rfl (lv_at hl 0 rfl) ?_
  refine va_get (D := D) (ci := 6) (v := .ref r) (C := RX6) (T := TX6) (N := 13) hx hb hts hiX6 hown hK hP 0 rfl rfl 0 (by decide) w_1 (fun _ h9 => h9) rfl dX6_noDigit_3 ?_
  refine lv_iconst (v := 0) hx hb dX6_noDigit_6 (by decide) ?_
  refine r_iald hx hb hK hP 1 0 rfl rfl (k := 0) (rfl) (by decide) (by decide) dX6_noDigit_7 ?_
  refine lv_as (y := v.1 0 0) (row_0 v (by decide)) ?_
  refine lv_iconst (v := 1) hx hb dX6_noDigit_8 (by decide) ?_
  refine lv_isub hx hb dX6_noDigit_9 ?_
  refine vp_callSi (va_runS (As := [.int x, .int 0, .int ((v.1 0 0) - 1)]) (rest := []) ⟨hx, hb, hml, hown, hts⟩ (k_X6_in l D ct x 0 (v.1 0 0 - 1)) (va_cwS 3 hts gX6_noDigit_X6_in rfl rfl rfl (by decide +kernel) ⟨Nat.le_of_ble_eq_true rfl, Nat.le_of_ble_eq_true rfl⟩) ⟨roP.blind, roP.at pw_nil hK hN⟩ rfl rfl hl.1 rfl (lv_room (Nat.le_of_ble_eq_true rfl)) dX6_noDigit_10 ⟨Nat.le_of_ble_eq_true rfl, Nat.le_of_ble_eq_true rfl⟩).run (fun r_10 h_10 => ?_)
  obtain rfl : r_10 = pIn x 0 (v.1 0 0 - 1) := h_10
  refine lv_if_ne (tgt := 20) hx hb dX6_noDigit_13 (by decide) (fun c_13 => ?_) (fun c_13 => ?_)
  · refine lv_iconst (v := 0) hx hb dX6_noDigit_20 (by decide) ?_
    exact W.zret (v := 0) hx hb hr (by decide) (fun t ht hW => ⟨0, rfl, (if_pos (pIn_1 c_13)).symm, ht⟩) (fun q hq => absurd hq List.not_mem_nil) dX6_noDigit_21
  · refine lv_iconst (v := 1) hx hb dX6_noDigit_16 (by decide) ?_
    refine lv_goto (tgt := 21) hx hb dX6_noDigit_17 (by decide) ?_
    exact W.zret (v := 1) hx hb hr (by decide) (fun t ht hW => ⟨1, rfl, (if_neg (fun h => h (pIn_0 c_13))).symm, ht⟩) (fun q hq => absurd hq List.not_mem_nil) dX6_noDigit_21

set_option maxHeartbeats 4000000 in
set_option maxRecDepth 100000 in
theorem k_X6_litPart (l : Launch) (D : va_G) (ct : Nat → ClassId) (h r : Nat) (tl : List Value) (v : SV) (d : Nat) (hd : d < 8) : Met l yX6_litPart wsX6_litPart ({ frames := 1, cells := 0, slots := 0, locals := 22 }) (roP D ct (mR ct h r tl v) [.ref h, .int (nI d)]) (vp_Si (fun r => r = pLP v d)) 0 0 noA := by
  refine Met.ofW (cc := cX6_litPart) (maxL := 2) (ret := (some .int)) (by decide) rfl ?_
  intro p e s m args below meth c s₁ B hml hv
  obtain ⟨rfl, hP, hK, hN⟩ := hv
  have hx := B.exec
  have hb := B.bytes
  have hr := B.returns
  have hts := atoms_spec (ws := wsX6_litPart) B.pre
  have hown : s.vm.findClass RX6 = some m.cls := findClass_of_methodNamed B.named
  have hlocks := B.notSynchronized
  have hl := lv_entry ([.ref h, .int (nI d)]) (n := 2) (Nat.le_of_ble_eq_true rfl)
  rw [lg_entry_eq]
  generalize (lg_sl ([.ref h, .int (nI d)]) ++ List.replicate (2 - (lg_sl ([.ref h, .int (nI d)])).length) Slot.unset).toArray = ls at hl ⊢
  have hl : lv_has ls 2 [(0, .ref h), (1, .int (nI d))] := hl
  refine lv_aload_n hx hb dX6_litPart_0 rfl (lv_at hl 0 rfl) ?_
  refine lv_iload_n hx hb dX6_litPart_1 rfl (lv_at hl 1 rfl) ?_
  refine lv_iconst (v := 1) hx hb dX6_litPart_2 (by decide) ?_
  refine vp_callSi (va_runV (As := [.int (nI d), .int 1]) (rest := []) ⟨hx, hb, hml, hown, hts⟩ (k_X6_of l D ct h r tl v d 1 hd (by decide)) (cwV 2 hts gX6_litPart_X6_of rfl rfl rfl (by decide +kernel) ⟨Nat.le_of_ble_eq_true rfl, Nat.le_of_ble_eq_true rfl⟩) ⟨roP.blind, va_recv hK hP (ci := 6) (q0 := 0) rfl rfl, roP.at hP hK hN⟩ rfl rfl hl.1 rfl (lv_room (Nat.le_of_ble_eq_true rfl)) dX6_litPart_3 ⟨Nat.le_of_ble_eq_true rfl, Nat.le_of_ble_eq_true rfl⟩).run (fun r_3 h_3 => ?_)
  obtain rfl : r_3 = v.1 (4 + d) 1 := h_3
  refine lv_aload_n hx hb dX6_litPart_6 rfl (lv_at hl 0 rfl) ?_
  refine lv_iload_n hx hb dX6_litPart_7 rfl (lv_at hl 1 rfl) ?_
  refine lv_iconst (v := 2) hx hb dX6_litPart_8 (by decide) ?_
  refine vp_callSi (va_runV (As := [.int (nI d), .int 2]) (rest := [.int (v.1 (4 + d) 1)]) ⟨hx, hb, hml, hown, hts⟩ (k_X6_of l D ct h r tl v d 2 hd (by decide)) (cwV 2 hts gX6_litPart_X6_of rfl rfl rfl (by decide +kernel) ⟨Nat.le_of_ble_eq_true rfl, Nat.le_of_ble_eq_true rfl⟩) ⟨roP.blind, va_recv hK hP (ci := 6) (q0 := 0) rfl rfl, roP.at hP hK hN⟩ rfl rfl hl.1 rfl (lv_room (Nat.le_of_ble_eq_true rfl)) dX6_litPart_9 ⟨Nat.le_of_ble_eq_true rfl, Nat.le_of_ble_eq_true rfl⟩).run (fun r_9 h_9 => ?_)
  obtain rfl : r_9 = v.1 (4 + d) 2 := h_9
  refine lv_isub hx hb dX6_litPart_12 ?_
  refine lv_aload_n hx hb dX6_litPart_13 rfl (lv_at hl 0 rfl) ?_
  refine lv_iload_n hx hb dX6_litPart_14 rfl (lv_at hl 1 rfl) ?_
  refine lv_iconst (v := 3) hx hb dX6_litPart_15 (by decide) ?_
  refine vp_callSi (va_runV (As := [.int (nI d), .int 3]) (rest := [.int ((v.1 (4 + d) 1) - (v.1 (4 + d) 2))]) ⟨hx, hb, hml, hown, hts⟩ (k_X6_of l D ct h r tl v d 3 hd (by decide)) (cwV 2 hts gX6_litPart_X6_of rfl rfl rfl (by decide +kernel) ⟨Nat.le_of_ble_eq_true rfl, Nat.le_of_ble_eq_true rfl⟩) ⟨roP.blind, va_recv hK hP (ci := 6) (q0 := 0) rfl rfl, roP.at hP hK hN⟩ rfl rfl hl.1 rfl (lv_room (Nat.le_of_ble_eq_true rfl)) dX6_litPart_16 ⟨Nat.le_of_ble_eq_true rfl, Nat.le_of_ble_eq_true rfl⟩).run (fun r_16 h_16 => ?_)
  obtain rfl : r_16 = v.1 (4 + d) 3 := h_16
  refine lv_imul hx hb dX6_litPart_19 ?_
  refine lv_bipush (v := 15) hx hb dX6_litPart_20 (by decide) ?_
  refine lv_idiv hx hb dX6_litPart_22 (by decide) ?_
  exact W.iret (v := ((((v.1 (4 + d) 1) - (v.1 (4 + d) 2)) * (v.1 (4 + d) 3)) / 15)) hx hb hr (fun t ht hW => ⟨((((v.1 (4 + d) 1) - (v.1 (4 + d) 2)) * (v.1 (4 + d) 3)) / 15), rfl, rfl, ht⟩) (fun q hq => absurd hq List.not_mem_nil) dX6_litPart_23

set_option maxHeartbeats 4000000 in
set_option maxRecDepth 100000 in
theorem k_X6_beginOf (l : Launch) (D : va_G) (ct : Nat → ClassId) (h r : Nat) (tl : List Value) (v : SV) (k : Nat) (hk : k ≤ 8) : Met l yX6_beginOf wsX6_beginOf ({ frames := 1, cells := 0, slots := 0, locals := 22 }) (roP D ct (mR ct h r tl v) [.ref h, .int (nI k)]) (vp_Si (fun r => r = pBeg v k)) 0 0 noA := by
  refine Met.ofW (cc := cX6_beginOf) (maxL := 4) (ret := (some .int)) (by decide) rfl ?_
  intro p e s m args below meth c s₁ B hml hv
  obtain ⟨rfl, hP, hK, hN⟩ := hv
  have hx := B.exec
  have hb := B.bytes
  have hr := B.returns
  have hts := atoms_spec (ws := wsX6_beginOf) B.pre
  have hown : s.vm.findClass RX6 = some m.cls := findClass_of_methodNamed B.named
  have hlocks := B.notSynchronized
  have hl := lv_entry ([.ref h, .int (nI k)]) (n := 4) (Nat.le_of_ble_eq_true rfl)
  rw [lg_entry_eq]
  generalize (lg_sl ([.ref h, .int (nI k)]) ++ List.replicate (4 - (lg_sl ([.ref h, .int (nI k)])).length) Slot.unset).toArray = ls at hl ⊢
  have hl : lv_has ls 4 [(0, .ref h), (1, .int (nI k))] := hl
  refine lv_iconst (v := 0) hx hb dX6_beginOf_0 (by decide) ?_
  refine lv_istore_n (lv' := [(2, .int 0), (0, .ref h), (1, .int (nI k))]) hx hb dX6_beginOf_1 rfl hl (by decide) rfl (fun ls hl => ?_)
  refine lv_iconst (v := 0) hx hb dX6_beginOf_2 (by decide) ?_
  refine lv_istore_n (lv' := [(3, .int 0), (2, .int 0), (0, .ref h), (1, .int (nI k))]) hx hb dX6_beginOf_3 rfl hl (by decide) rfl (fun ls hl => ?_)
  have loop_4 : ∀ (n_4 : Nat) (i : Nat) (x : Int32), i ≤ k → k + 1 ≤ i + n_4 → x = pBeg v i → ∀ (ls : Array Slot), lv_has ls 4 [(2, .int x), (3, .int (nI i)), (0, .ref h), (1, .int (nI k))] → W p l e (headSpec wsX6_beginOf ({ frames := 1, cells := 0, slots := 0, locals := 22 })).room s m #[.ref h, .int (nI k)] below meth c s.heap [] 0 0 (MQ below (vp_Si (fun r => r = pBeg v k)) #[.ref h, .int (nI k)] s 0 0 (noA)) (F0 m 4 ls []) := by
    intro n_4
    induction n_4 with
    | zero =>
      intro i x hi hn hx2
      exact absurd hn (by omega)
    | succ n_4 ih_4 =>
      intro i x hi hn hx2 ls hl
      refine lv_iload_n hx hb dX6_beginOf_4 rfl (lv_at hl 1 rfl) ?_
      refine lv_iload_n hx hb dX6_beginOf_5 rfl (lv_at hl 3 rfl) ?_
      refine lv_icmp_ge (tgt := 24) hx hb dX6_beginOf_6 (by decide) (fun c_6 => ?_) (fun c_6 => ?_)
      · have hge : k ≤ i := nI_le' (by omega) (by omega) c_6
        refine lv_iload_n hx hb dX6_beginOf_24 rfl (lv_at hl 0 rfl) ?_
        exact W.iret (v := x) hx hb hr (fun t ht hW => ⟨x, rfl, by rw [hx2, show i = k by omega], ht⟩) (fun q hq => absurd hq List.not_mem_nil) dX6_beginOf_25
      · have hlt : i < k := nI_nle' (by omega) (by omega) c_6
        refine lv_iload_n hx hb dX6_beginOf_9 rfl (lv_at hl 0 rfl) ?_
        refine lv_aload_n hx hb dX6_beginOf_10 rfl (lv_at hl 2 rfl) ?_
        refine lv_iload_n hx hb dX6_beginOf_11 rfl (lv_at hl 1 rfl) ?_
        refine lv_iconst (v := 1) hx hb dX6_beginOf_12 (by decide) ?_
        refine vp_callSi (va_runV (As := [.int (nI i), .int 1]) (rest := [.int x]) ⟨hx, hb, hml, hown, hts⟩ (k_X6_of l D ct h r tl v i 1 (by omega) (by decide)) (cwV 2 hts gX6_beginOf_X6_of rfl rfl rfl (by decide +kernel) ⟨Nat.le_of_ble_eq_true rfl, Nat.le_of_ble_eq_true rfl⟩) ⟨roP.blind, va_recv hK hP (ci := 6) (q0 := 0) rfl rfl, roP.at hP hK hN⟩ rfl rfl hl.1 rfl (lv_room (Nat.le_of_ble_eq_true rfl)) dX6_beginOf_13 ⟨Nat.le_of_ble_eq_true rfl, Nat.le_of_ble_eq_true rfl⟩).run (fun r_13 h_13 => ?_)
        obtain rfl : r_13 = v.1 (4 + i) 1 := h_13
        refine lv_iadd hx hb dX6_beginOf_16 ?_
        refine lv_istore_n (lv' := [(2, .int (x + (v.1 (4 + i) 1))), (3, .int (nI i)), (0, .ref h), (1, .int (nI k))]) hx hb dX6_beginOf_17 rfl hl (by decide) rfl (fun ls hl => ?_)
        refine lv_iinc (v := nI (i + 1)) (lv' := [(3, .int (nI (i + 1))), (2, .int (x + (v.1 (4 + i) 1))), (0, .ref h), (1, .int (nI k))]) hx hb dX6_beginOf_18 hl (k := 1) rfl ((nI_succ i).symm) (by decide) rfl (fun ls hl => ?_)
        refine lv_goto (tgt := 4) hx hb dX6_beginOf_21 (by decide) ?_
        exact ih_4 (i + 1) (x + v.1 (4 + i) 1) (by omega) (by omega) (by rw [hx2]; rfl) ls (lv_sub hl [1, 0, 2, 3] rfl)
  exact loop_4 (k + 1) 0 0 (Nat.zero_le _) (by omega) rfl ls (lv_sub hl [1, 0, 2, 3] rfl)

set_option maxHeartbeats 4000000 in
set_option maxRecDepth 100000 in
theorem k_X6_frameLength (l : Launch) (D : va_G) (ct : Nat → ClassId) (h r : Nat) (tl : List Value) (v : SV) (hn8 : nOf v ≤ 8) (hnI : v.1 0 0 = nI (nOf v)) : Met l yX6_frameLength wsX6_frameLength ({ frames := 2, cells := 0, slots := 0, locals := 45 }) (roP D ct (mR ct h r tl v) [.ref h]) (vp_Si (fun r => r = pLen v)) 0 0 noA := by
  refine Met.ofW (cc := cX6_frameLength) (maxL := 1) (ret := (some .int)) (by decide) rfl ?_
  intro p e s m args below meth c s₁ B hml hv
  obtain ⟨rfl, hP, hK, hN⟩ := hv
  have hx := B.exec
  have hb := B.bytes
  have hr := B.returns
  have hts := atoms_spec (ws := wsX6_frameLength) B.pre
  have hown : s.vm.findClass RX6 = some m.cls := findClass_of_methodNamed B.named
  have hlocks := B.notSynchronized
  have w_1 := hts (.fieldLink RX6 7 "ScannedDigitsModel" "row" "[I") (List.mem_of_getElem? (i := 1) rfl)
  have hiX6 : ∀ w ∈ wsX60, w ∈ wsX6_frameLength := fun w h => (goodIn_r wsX60 [11, 12, 13, 14, 15, 16, 17, 18, 19, 20, 21, 22, 23] (by decide +kernel) (by decide +kernel) w h).1
  have hl := lv_entry ([.ref h]) (n := 1) (Nat.le_of_ble_eq_true rfl)
  rw [lg_entry_eq]
  generalize (lg_sl ([.ref h]) ++ List.replicate (1 - (lg_sl ([.ref h])).length) Slot.unset).toArray = ls at hl ⊢
  have hl : lv_has ls 1 [(0, .ref h)] := hl
  refine lv_aload_n hx hb dX6_frameLength_0 rfl (lv_at hl 0 rfl) ?_
  refine lv_aload_n hx hb dX6_frameLength_1 rfl (lv_at hl 0 rfl) ?_
  refine va_get (D := D) (ci := 6) (v := .ref r) (C := RX6) (T := TX6) (N := 13) hx hb hts hiX6 hown hK hP 0 rfl rfl 0 (by decide) w_1 (fun _ h9 => h9) rfl dX6_frameLength_2 ?_
  refine lv_iconst (v := 0) hx hb dX6_frameLength_5 (by decide) ?_
  refine r_iald hx hb hK hP 1 0 rfl rfl (k := 0) (rfl) (by decide) (by decide) dX6_frameLength_6 ?_
  refine lv_as (y := nI (nOf v)) ((row_0 v (by decide)).trans hnI) ?_
  refine vp_callSi (va_runV (As := [.int (nI (nOf v))]) (rest := []) ⟨hx, hb, hml, hown, hts⟩ (k_X6_beginOf l D ct h r tl v (nOf v) hn8) (cwV 1 hts gX6_frameLength_X6_beginOf rfl rfl rfl (by decide +kernel) ⟨Nat.le_of_ble_eq_true rfl, Nat.le_of_ble_eq_true rfl⟩) ⟨roP.blind, va_recv hK hP (ci := 6) (q0 := 0) rfl rfl, roP.at hP hK hN⟩ rfl rfl hl.1 rfl (lv_room (Nat.le_of_ble_eq_true rfl)) dX6_frameLength_7 ⟨Nat.le_of_ble_eq_true rfl, Nat.le_of_ble_eq_true rfl⟩).run (fun r_7 h_7 => ?_)
  obtain rfl : r_7 = pBeg v (nOf v) := h_7
  exact W.iret (v := (pBeg v (nOf v))) hx hb hr (fun t ht hW => ⟨(pBeg v (nOf v)), rfl, rfl, ht⟩) (fun q hq => absurd hq List.not_mem_nil) dX6_frameLength_10
end
section
set_option maxHeartbeats 4000000 in
set_option maxRecDepth 100000 in
theorem k_X6_slotNow (l : Launch) (D : va_G) (ct : Nat → ClassId) (h r : Nat) (tl : List Value) (v : SV) (ok : Inv v) : Met l yX6_slotNow wsX6_slotNow ({ frames := 2, cells := 0, slots := 0, locals := 45 }) (roP D ct (mR ct h r tl v) [.ref h]) (vp_Si (fun r => r = nI (pSlot v))) 0 0 noA := by
  refine Met.ofW (cc := cX6_slotNow) (maxL := 2) (ret := (some .int)) (by decide) rfl ?_
  intro p e s m args below meth c s₁ B hml hv
  obtain ⟨rfl, hP, hK, hN⟩ := hv
  have hx := B.exec
  have hb := B.bytes
  have hr := B.returns
  have hts := atoms_spec (ws := wsX6_slotNow) B.pre
  have hown : s.vm.findClass RX6 = some m.cls := findClass_of_methodNamed B.named
  have hlocks := B.notSynchronized
  have w_1 := hts (.fieldLink RX6 7 "ScannedDigitsModel" "row" "[I") (List.mem_of_getElem? (i := 1) rfl)
  have hiX6 : ∀ w ∈ wsX60, w ∈ wsX6_slotNow := fun w h => (goodIn_r wsX60 [11, 12, 13, 14, 15, 16, 17, 18, 19, 20, 21, 22, 23] (by decide +kernel) (by decide +kernel) w h).1
  have hl := lv_entry ([.ref h]) (n := 2) (Nat.le_of_ble_eq_true rfl)
  rw [lg_entry_eq]
  generalize (lg_sl ([.ref h]) ++ List.replicate (2 - (lg_sl ([.ref h])).length) Slot.unset).toArray = ls at hl ⊢
  have hl : lv_has ls 2 [(0, .ref h)] := hl
  have n8 := ok.n8
  have n1 := ok.n1
  have htk := ok.tick
  refine lv_iconst (v := 0) hx hb dX6_slotNow_0 (by decide) ?_
  refine lv_istore_n (lv' := [(1, .int 0), (0, .ref h)]) hx hb dX6_slotNow_1 rfl hl (by decide) rfl (fun ls hl => ?_)
  have loop_2 : ∀ (n_2 : Nat) (i : Nat), i < nOf v → nOf v ≤ i + n_2 → pSlotF v (8 - i) i = pSlot v → ∀ (ls : Array Slot), lv_has ls 2 [(1, .int (nI i)), (0, .ref h)] → W p l e (headSpec wsX6_slotNow ({ frames := 2, cells := 0, slots := 0, locals := 45 })).room s m #[.ref h] below meth c s.heap [] 0 0 (MQ below (vp_Si (fun r => r = nI (pSlot v))) #[.ref h] s 0 0 (noA)) (F0 m 2 ls []) := by
    intro n_2
    induction n_2 with
    | zero =>
      intro i hi hn hq
      exact absurd hn (by omega)
    | succ n_2 ih_2 =>
      intro i hi hn hq ls hl
      refine lv_aload_n hx hb dX6_slotNow_2 rfl (lv_at hl 1 rfl) ?_
      refine va_get (D := D) (ci := 6) (v := .ref r) (C := RX6) (T := TX6) (N := 13) hx hb hts hiX6 hown hK hP 0 rfl rfl 0 (by decide) w_1 (fun _ h9 => h9) rfl dX6_slotNow_3 ?_
      refine lv_iconst (v := 3) hx hb dX6_slotNow_6 (by decide) ?_
      refine r_iald hx hb hK hP 1 0 rfl rfl (k := 3) (rfl) (by decide) (by decide) dX6_slotNow_7 ?_
      refine lv_as (y := v.1 0 3) (row_0 v (by decide)) ?_
      refine lv_aload_n hx hb dX6_slotNow_8 rfl (lv_at hl 1 rfl) ?_
      refine lv_iload_n hx hb dX6_slotNow_9 rfl (lv_at hl 0 rfl) ?_
      refine lv_iconst (v := 1) hx hb dX6_slotNow_10 (by decide) ?_
      refine lv_iadd hx hb dX6_slotNow_11 ?_
      refine lv_as (y := nI (i + 1)) (nI_1 i) ?_
      refine vp_callSi (va_runV (As := [.int (nI (i + 1))]) (rest := [.int (v.1 0 3)]) ⟨hx, hb, hml, hown, hts⟩ (k_X6_beginOf l D ct h r tl v (i + 1) (by omega)) (cwV 1 hts gX6_slotNow_X6_beginOf rfl rfl rfl (by decide +kernel) ⟨Nat.le_of_ble_eq_true rfl, Nat.le_of_ble_eq_true rfl⟩) ⟨roP.blind, va_recv hK hP (ci := 6) (q0 := 0) rfl rfl, roP.at hP hK hN⟩ rfl rfl hl.1 rfl (lv_room (Nat.le_of_ble_eq_true rfl)) dX6_slotNow_12 ⟨Nat.le_of_ble_eq_true rfl, Nat.le_of_ble_eq_true rfl⟩).run (fun r_12 h_12 => ?_)
      obtain rfl : r_12 = pBeg v (i + 1) := h_12
      refine lv_icmp_lt (tgt := 24) hx hb dX6_slotNow_15 (by decide) (fun c_15 => ?_) (fun c_15 => ?_)
      · refine lv_iload_n hx hb dX6_slotNow_24 rfl (lv_at hl 0 rfl) ?_
        exact W.iret (v := (nI i)) hx hb hr (fun t ht hW => ⟨(nI i), rfl, by rw [← hq, pSlot_exit (by omega) c_15], ht⟩) (fun q hq => absurd hq List.not_mem_nil) dX6_slotNow_25
      · refine lv_iinc (v := nI (i + 1)) (lv' := [(1, .int (nI (i + 1))), (0, .ref h)]) hx hb dX6_slotNow_18 hl (k := 0) rfl ((nI_succ i).symm) (by decide) rfl (fun ls hl => ?_)
        refine lv_goto (tgt := 2) hx hb dX6_slotNow_21 (by decide) ?_
        have hi2 : i + 1 < nOf v := Nat.lt_of_le_of_ne hi (fun z => c_15 (by rw [z]; exact htk))
        exact ih_2 (i + 1) hi2 (by omega) ((pSlot_next (by omega) c_15).symm.trans hq) ls (lv_sub hl [0, 1] rfl)
  exact loop_2 (nOf v) 0 (by omega) (by omega) rfl ls (lv_sub hl [0, 1] rfl)

set_option maxHeartbeats 4000000 in
set_option maxRecDepth 100000 in
theorem k_X6_isOn (l : Launch) (D : va_G) (ct : Nat → ClassId) (h r : Nat) (tl : List Value) (v : SV) (g : Nat) (hg : g < 4) (ok : Inv v) : Met l yX6_isOn wsX6_isOn ({ frames := 0, cells := 0, slots := 0, locals := 0 }) (roP D ct (mR ct h r tl v) [.ref h, .int (nI g)]) (vp_Si (fun r => r = if pOn v g then 1 else 0)) 0 0 noA := by
  refine Met.ofW (cc := cX6_isOn) (maxL := 3) (ret := (some .boolean)) (by decide) rfl ?_
  intro p e s m args below meth c s₁ B hml hv
  obtain ⟨rfl, hP, hK, hN⟩ := hv
  have hx := B.exec
  have hb := B.bytes
  have hr := B.returns
  have hts := atoms_spec (ws := wsX6_isOn) B.pre
  have hown : s.vm.findClass RX6 = some m.cls := findClass_of_methodNamed B.named
  have hlocks := B.notSynchronized
  have w_1 := hts (.fieldLink RX6 7 "ScannedDigitsModel" "row" "[I") (List.mem_of_getElem? (i := 1) rfl)
  have hiX6 : ∀ w ∈ wsX60, w ∈ wsX6_isOn := fun w h => (goodIn_r wsX60 [2, 3, 4, 5, 6, 7, 8, 9, 10, 11, 12, 13, 14] (by decide +kernel) (by decide +kernel) w h).1
  have hl := lv_entry ([.ref h, .int (nI g)]) (n := 3) (Nat.le_of_ble_eq_true rfl)
  rw [lg_entry_eq]
  generalize (lg_sl ([.ref h, .int (nI g)]) ++ List.replicate (3 - (lg_sl ([.ref h, .int (nI g)])).length) Slot.unset).toArray = ls at hl ⊢
  have hl : lv_has ls 3 [(0, .ref h), (1, .int (nI g))] := hl
  refine lv_iload_n hx hb dX6_isOn_0 rfl (lv_at hl 1 rfl) ?_
  refine lv_if_ne (tgt := 6) hx hb dX6_isOn_1 (by decide) (fun c_1 => ?_) (fun c_1 => ?_)
  · have h0 : 0 < g := Nat.pos_of_ne_zero (fun z => c_1 (by rw [z]; rfl))
    refine lv_aload_n hx hb dX6_isOn_6 rfl (lv_at hl 0 rfl) ?_
    refine va_get (D := D) (ci := 6) (v := .ref r) (C := RX6) (T := TX6) (N := 13) hx hb hts hiX6 hown hK hP 0 rfl rfl 0 (by decide) w_1 (fun _ h9 => h9) rfl dX6_isOn_7 ?_
    refine lv_bipush (v := 9) hx hb dX6_isOn_10 (by decide) ?_
    refine lv_iload_n hx hb dX6_isOn_12 rfl (lv_at hl 1 rfl) ?_
    refine lv_iadd hx hb dX6_isOn_13 ?_
    refine lv_iconst (v := 1) hx hb dX6_isOn_14 (by decide) ?_
    refine lv_isub hx hb dX6_isOn_15 ?_
    refine r_iald hx hb hK hP 1 0 rfl rfl (k := 8 + g) (ix_m1 8 g 9 rfl) (by omega) (by decide) dX6_isOn_16 ?_
    refine lv_as (y := v.1 1 g) (row_1 v h0 hg) ?_
    refine lv_istore_n (lv' := [(2, .int (v.1 1 g)), (0, .ref h), (1, .int (nI g))]) hx hb dX6_isOn_17 rfl hl (by decide) rfl (fun ls hl => ?_)
    refine lv_aload_n hx hb dX6_isOn_18 rfl (lv_at hl 1 rfl) ?_
    refine va_get (D := D) (ci := 6) (v := .ref r) (C := RX6) (T := TX6) (N := 13) hx hb hts hiX6 hown hK hP 0 rfl rfl 0 (by decide) w_1 (fun _ h9 => h9) rfl dX6_isOn_19 ?_
    refine lv_iconst (v := 2) hx hb dX6_isOn_22 (by decide) ?_
    refine r_iald hx hb hK hP 1 0 rfl rfl (k := 2) (rfl) (by decide) (by decide) dX6_isOn_23 ?_
    refine lv_as (y := v.1 0 2) (row_0 v (by decide)) ?_
    refine lv_iload_n hx hb dX6_isOn_24 rfl (lv_at hl 0 rfl) ?_
    refine lv_aload_n hx hb dX6_isOn_25 rfl (lv_at hl 1 rfl) ?_
    refine va_get (D := D) (ci := 6) (v := .ref r) (C := RX6) (T := TX6) (N := 13) hx hb hts hiX6 hown hK hP 0 rfl rfl 0 (by decide) w_1 (fun _ h9 => h9) rfl dX6_isOn_26 ?_
    refine lv_bipush (v := 12) hx hb dX6_isOn_29 (by decide) ?_
    refine lv_iload_n hx hb dX6_isOn_31 rfl (lv_at hl 2 rfl) ?_
    refine lv_iadd hx hb dX6_isOn_32 ?_
    refine lv_iconst (v := 1) hx hb dX6_isOn_33 (by decide) ?_
    refine lv_isub hx hb dX6_isOn_34 ?_
    refine r_iald hx hb hK hP 1 0 rfl rfl (k := 11 + g) (ix_m1 11 g 12 rfl) (by omega) (by decide) dX6_isOn_35 ?_
    refine lv_as (y := v.1 2 g) (row_2 v h0 hg) ?_
    refine lv_iadd hx hb dX6_isOn_36 ?_
    refine lv_irem hx hb dX6_isOn_37 (ok.per h0 hg) ?_
    refine lv_iload_n hx hb dX6_isOn_38 rfl (lv_at hl 0 rfl) ?_
    refine lv_icmp_ge (tgt := 46) hx hb dX6_isOn_39 (by decide) (fun c_39 => ?_) (fun c_39 => ?_)
    · refine lv_iconst (v := 0) hx hb dX6_isOn_46 (by decide) ?_
      exact W.zret (v := 0) hx hb hr (by decide) (fun t ht hW => ⟨0, rfl, (if_neg (fun z => z.elim (fun q => by omega) (fun q => Int32.not_lt.mpr c_39 q))).symm, ht⟩) (fun q hq => absurd hq List.not_mem_nil) dX6_isOn_47
    · refine lv_iconst (v := 1) hx hb dX6_isOn_42 (by decide) ?_
      refine lv_goto (tgt := 47) hx hb dX6_isOn_43 (by decide) ?_
      exact W.zret (v := 1) hx hb hr (by decide) (fun t ht hW => ⟨1, rfl, (if_pos (Or.inr (i_not_le c_39))).symm, ht⟩) (fun q hq => absurd hq List.not_mem_nil) dX6_isOn_47
  · have h0 : g = 0 := (nI_eq (by omega) (by decide)).mp (show nI g = nI 0 from c_1)
    refine lv_iconst (v := 1) hx hb dX6_isOn_4 (by decide) ?_
    exact W.zret (v := 1) hx hb hr (by decide) (fun t ht hW => ⟨1, rfl, (if_pos (Or.inl h0)).symm, ht⟩) (fun q hq => absurd hq List.not_mem_nil) dX6_isOn_5

set_option maxHeartbeats 4000000 in
set_option maxRecDepth 100000 in
theorem k_X6_isDriven (l : Launch) (D : va_G) (ct : Nat → ClassId) (h r : Nat) (tl : List Value) (v : SV) (d : Nat) (hd : d < nOf v) (ok : Inv v) : Met l yX6_isDriven wsX6_isDriven ({ frames := 2, cells := 0, slots := 0, locals := 45 }) (roP D ct (mR ct h r tl v) [.ref h, .int (nI d)]) (vp_Si (fun r => r = if pDrv v d then 1 else 0)) 0 0 noA := by
  refine Met.ofW (cc := cX6_isDriven) (maxL := 3) (ret := (some .boolean)) (by decide) rfl ?_
  intro p e s m args below meth c s₁ B hml hv
  obtain ⟨rfl, hP, hK, hN⟩ := hv
  have hx := B.exec
  have hb := B.bytes
  have hr := B.returns
  have hts := atoms_spec (ws := wsX6_isDriven) B.pre
  have hown : s.vm.findClass RX6 = some m.cls := findClass_of_methodNamed B.named
  have hlocks := B.notSynchronized
  have w_1 := hts (.fieldLink RX6 7 "ScannedDigitsModel" "row" "[I") (List.mem_of_getElem? (i := 1) rfl)
  have hiX6 : ∀ w ∈ wsX60, w ∈ wsX6_isDriven := fun w h => (goodIn_r wsX60 [19, 20, 21, 22, 23, 24, 25, 26, 27, 28, 29, 30, 31] (by decide +kernel) (by decide +kernel) w h).1
  have hl := lv_entry ([.ref h, .int (nI d)]) (n := 3) (Nat.le_of_ble_eq_true rfl)
  rw [lg_entry_eq]
  generalize (lg_sl ([.ref h, .int (nI d)]) ++ List.replicate (3 - (lg_sl ([.ref h, .int (nI d)])).length) Slot.unset).toArray = ls at hl ⊢
  have hl : lv_has ls 3 [(0, .ref h), (1, .int (nI d))] := hl
  have hd8 : d < 8 := Nat.lt_of_lt_of_le hd ok.n8
  obtain ⟨g, hg, eg⟩ := ok.gr hd
  have eg2 : gOf v d = g := by
    show (v.1 (4 + d) 4).toNatClampNeg = g
    rw [eg]; exact nI_clamp (by omega)
  refine lv_aload_n hx hb dX6_isDriven_0 rfl (lv_at hl 0 rfl) ?_
  refine va_get (D := D) (ci := 6) (v := .ref r) (C := RX6) (T := TX6) (N := 13) hx hb hts hiX6 hown hK hP 0 rfl rfl 0 (by decide) w_1 (fun _ h9 => h9) rfl dX6_isDriven_1 ?_
  refine lv_iconst (v := 3) hx hb dX6_isDriven_4 (by decide) ?_
  refine r_iald hx hb hK hP 1 0 rfl rfl (k := 3) (rfl) (by decide) (by decide) dX6_isDriven_5 ?_
  refine lv_as (y := v.1 0 3) (row_0 v (by decide)) ?_
  refine lv_aload_n hx hb dX6_isDriven_6 rfl (lv_at hl 0 rfl) ?_
  refine lv_iload_n hx hb dX6_isDriven_7 rfl (lv_at hl 1 rfl) ?_
  refine vp_callSi (va_runV (As := [.int (nI d)]) (rest := [.int (v.1 0 3)]) ⟨hx, hb, hml, hown, hts⟩ (k_X6_beginOf l D ct h r tl v d (by omega)) (cwV 1 hts gX6_isDriven_X6_beginOf rfl rfl rfl (by decide +kernel) ⟨Nat.le_of_ble_eq_true rfl, Nat.le_of_ble_eq_true rfl⟩) ⟨roP.blind, va_recv hK hP (ci := 6) (q0 := 0) rfl rfl, roP.at hP hK hN⟩ rfl rfl hl.1 rfl (lv_room (Nat.le_of_ble_eq_true rfl)) dX6_isDriven_8 ⟨Nat.le_of_ble_eq_true rfl, Nat.le_of_ble_eq_true rfl⟩).run (fun r_8 h_8 => ?_)
  obtain rfl : r_8 = pBeg v d := h_8
  refine lv_isub hx hb dX6_isDriven_11 ?_
  refine lv_istore_n (lv' := [(2, .int ((v.1 0 3) - (pBeg v d))), (0, .ref h), (1, .int (nI d))]) hx hb dX6_isDriven_12 rfl hl (by decide) rfl (fun ls hl => ?_)
  refine lv_aload_n hx hb dX6_isDriven_13 rfl (lv_at hl 1 rfl) ?_
  refine va_get (D := D) (ci := 6) (v := .ref r) (C := RX6) (T := TX6) (N := 13) hx hb hts hiX6 hown hK hP 0 rfl rfl 0 (by decide) w_1 (fun _ h9 => h9) rfl dX6_isDriven_14 ?_
  refine lv_iconst (v := 4) hx hb dX6_isDriven_17 (by decide) ?_
  refine r_iald hx hb hK hP 1 0 rfl rfl (k := 4) (rfl) (by decide) (by decide) dX6_isDriven_18 ?_
  refine lv_as (y := v.1 0 4) (row_0 v (by decide)) ?_
  refine lv_if_le (tgt := 45) hx hb dX6_isDriven_19 (by decide) (fun c_19 => ?_) (fun c_19 => ?_)
  · refine lv_iload_n hx hb dX6_isDriven_45 rfl (lv_at hl 0 rfl) ?_
    refine lv_aload_n hx hb dX6_isDriven_46 rfl (lv_at hl 1 rfl) ?_
    refine lv_iload_n hx hb dX6_isDriven_47 rfl (lv_at hl 2 rfl) ?_
    refine vp_callSi (va_runV (As := [.int (nI d)]) (rest := [.int ((v.1 0 3) - (pBeg v d))]) ⟨hx, hb, hml, hown, hts⟩ (k_X6_litPart l D ct h r tl v d hd8) (cwV 1 hts gX6_isDriven_X6_litPart rfl rfl rfl (by decide +kernel) ⟨Nat.le_of_ble_eq_true rfl, Nat.le_of_ble_eq_true rfl⟩) ⟨roP.blind, va_recv hK hP (ci := 6) (q0 := 0) rfl rfl, roP.at hP hK hN⟩ rfl rfl hl.1 rfl (lv_room (Nat.le_of_ble_eq_true rfl)) dX6_isDriven_48 ⟨Nat.le_of_ble_eq_true rfl, Nat.le_of_ble_eq_true rfl⟩).run (fun r_48 h_48 => ?_)
    obtain rfl : r_48 = pLP v d := h_48
    refine lv_icmp_ge (tgt := 71) hx hb dX6_isDriven_51 (by decide) (fun c_51 => ?_) (fun c_51 => ?_)
    · refine lv_iconst (v := 0) hx hb dX6_isDriven_71 (by decide) ?_
      exact W.zret (v := 0) hx hb hr (by decide) (fun t ht hW => ⟨0, rfl, (if_neg (fun z => z.elim (fun q => Int32.not_lt.mpr c_19 q.1) (fun q => Int32.not_lt.mpr c_51 q.2.1))).symm, ht⟩) (fun q hq => absurd hq List.not_mem_nil) dX6_isDriven_72
    · refine lv_aload_n hx hb dX6_isDriven_54 rfl (lv_at hl 1 rfl) ?_
      refine lv_aload_n hx hb dX6_isDriven_55 rfl (lv_at hl 1 rfl) ?_
      refine lv_iload_n hx hb dX6_isDriven_56 rfl (lv_at hl 2 rfl) ?_
      refine lv_iconst (v := 4) hx hb dX6_isDriven_57 (by decide) ?_
      refine vp_callSi (va_runV (As := [.int (nI d), .int 4]) (rest := [.ref h]) ⟨hx, hb, hml, hown, hts⟩ (k_X6_of l D ct h r tl v d 4 hd8 (by decide)) (cwV 2 hts gX6_isDriven_X6_of rfl rfl rfl (by decide +kernel) ⟨Nat.le_of_ble_eq_true rfl, Nat.le_of_ble_eq_true rfl⟩) ⟨roP.blind, va_recv hK hP (ci := 6) (q0 := 0) rfl rfl, roP.at hP hK hN⟩ rfl rfl hl.1 rfl (lv_room (Nat.le_of_ble_eq_true rfl)) dX6_isDriven_58 ⟨Nat.le_of_ble_eq_true rfl, Nat.le_of_ble_eq_true rfl⟩).run (fun r_58 h_58 => ?_)
      obtain rfl : r_58 = v.1 (4 + d) 4 := h_58
      refine lv_as (y := nI g) (eg) ?_
      refine vp_callSi (va_runV (As := [.int (nI g)]) (rest := []) ⟨hx, hb, hml, hown, hts⟩ (k_X6_isOn l D ct h r tl v g hg ok) (cwV 1 hts gX6_isDriven_X6_isOn rfl rfl rfl (by decide +kernel) ⟨Nat.le_of_ble_eq_true rfl, Nat.le_of_ble_eq_true rfl⟩) ⟨roP.blind, va_recv hK hP (ci := 6) (q0 := 0) rfl rfl, roP.at hP hK hN⟩ rfl rfl hl.1 rfl (lv_room (Nat.le_of_ble_eq_true rfl)) dX6_isDriven_61 ⟨Nat.le_of_ble_eq_true rfl, Nat.le_of_ble_eq_true rfl⟩).run (fun r_61 h_61 => ?_)
      obtain rfl : r_61 = if pOn v g then 1 else 0 := h_61
      refine lv_if_eq (tgt := 71) hx hb dX6_isDriven_64 (by decide) (fun c_64 => ?_) (fun c_64 => ?_)
      · have hon : ¬ pOn v g := fun z => by rw [if_pos z] at c_64; exact absurd c_64 (by decide)
        refine lv_iconst (v := 0) hx hb dX6_isDriven_71 (by decide) ?_
        exact W.zret (v := 0) hx hb hr (by decide) (fun t ht hW => ⟨0, rfl, (if_neg (fun z => z.elim (fun q => Int32.not_lt.mpr c_19 q.1) (fun q => hon (eg2 ▸ q.2.2)))).symm, ht⟩) (fun q hq => absurd hq List.not_mem_nil) dX6_isDriven_72
      · have hon : pOn v g := Classical.byContradiction (fun z => by rw [if_neg z] at c_64; exact c_64 rfl)
        refine lv_iconst (v := 1) hx hb dX6_isDriven_67 (by decide) ?_
        refine lv_goto (tgt := 72) hx hb dX6_isDriven_68 (by decide) ?_
        exact W.zret (v := 1) hx hb hr (by decide) (fun t ht hW => ⟨1, rfl, (if_pos (Or.inr ⟨Int32.not_lt.mpr c_19, i_not_le c_51, eg2.symm ▸ hon⟩)).symm, ht⟩) (fun q hq => absurd hq List.not_mem_nil) dX6_isDriven_72
  · refine lv_iload_n hx hb dX6_isDriven_22 rfl (lv_at hl 0 rfl) ?_
    refine lv_aload_n hx hb dX6_isDriven_23 rfl (lv_at hl 1 rfl) ?_
    refine lv_iload_n hx hb dX6_isDriven_24 rfl (lv_at hl 2 rfl) ?_
    refine lv_iconst (v := 1) hx hb dX6_isDriven_25 (by decide) ?_
    refine vp_callSi (va_runV (As := [.int (nI d), .int 1]) (rest := [.int ((v.1 0 3) - (pBeg v d))]) ⟨hx, hb, hml, hown, hts⟩ (k_X6_of l D ct h r tl v d 1 hd8 (by decide)) (cwV 2 hts gX6_isDriven_X6_of rfl rfl rfl (by decide +kernel) ⟨Nat.le_of_ble_eq_true rfl, Nat.le_of_ble_eq_true rfl⟩) ⟨roP.blind, va_recv hK hP (ci := 6) (q0 := 0) rfl rfl, roP.at hP hK hN⟩ rfl rfl hl.1 rfl (lv_room (Nat.le_of_ble_eq_true rfl)) dX6_isDriven_26 ⟨Nat.le_of_ble_eq_true rfl, Nat.le_of_ble_eq_true rfl⟩).run (fun r_26 h_26 => ?_)
    obtain rfl : r_26 = v.1 (4 + d) 1 := h_26
    refine lv_aload_n hx hb dX6_isDriven_29 rfl (lv_at hl 1 rfl) ?_
    refine lv_iload_n hx hb dX6_isDriven_30 rfl (lv_at hl 2 rfl) ?_
    refine lv_iconst (v := 2) hx hb dX6_isDriven_31 (by decide) ?_
    refine vp_callSi (va_runV (As := [.int (nI d), .int 2]) (rest := [.int (v.1 (4 + d) 1), .int ((v.1 0 3) - (pBeg v d))]) ⟨hx, hb, hml, hown, hts⟩ (k_X6_of l D ct h r tl v d 2 hd8 (by decide)) (cwV 2 hts gX6_isDriven_X6_of rfl rfl rfl (by decide +kernel) ⟨Nat.le_of_ble_eq_true rfl, Nat.le_of_ble_eq_true rfl⟩) ⟨roP.blind, va_recv hK hP (ci := 6) (q0 := 0) rfl rfl, roP.at hP hK hN⟩ rfl rfl hl.1 rfl (lv_room (Nat.le_of_ble_eq_true rfl)) dX6_isDriven_32 ⟨Nat.le_of_ble_eq_true rfl, Nat.le_of_ble_eq_true rfl⟩).run (fun r_32 h_32 => ?_)
    obtain rfl : r_32 = v.1 (4 + d) 2 := h_32
    refine lv_isub hx hb dX6_isDriven_35 ?_
    refine lv_icmp_ge (tgt := 43) hx hb dX6_isDriven_36 (by decide) (fun c_36 => ?_) (fun c_36 => ?_)
    · refine lv_iconst (v := 0) hx hb dX6_isDriven_43 (by decide) ?_
      exact W.zret (v := 0) hx hb hr (by decide) (fun t ht hW => ⟨0, rfl, (if_neg (fun z => z.elim (fun q => Int32.not_lt.mpr c_36 q.2) (fun q => q.1 (i_not_le c_19)))).symm, ht⟩) (fun q hq => absurd hq List.not_mem_nil) dX6_isDriven_44
    · refine lv_iconst (v := 1) hx hb dX6_isDriven_39 (by decide) ?_
      refine lv_goto (tgt := 44) hx hb dX6_isDriven_40 (by decide) ?_
      exact W.zret (v := 1) hx hb hr (by decide) (fun t ht hW => ⟨1, rfl, (if_pos (Or.inl ⟨i_not_le c_19, i_not_le c_36⟩)).symm, ht⟩) (fun q hq => absurd hq List.not_mem_nil) dX6_isDriven_44

set_option maxHeartbeats 4000000 in
set_option maxRecDepth 100000 in
theorem k_X6_litNow (l : Launch) (D : va_G) (ct : Nat → ClassId) (h r : Nat) (tl : List Value) (v : SV) (d : Nat) (hd : d < nOf v) (ok : Inv v) : Met l yX6_litNow wsX6_litNow ({ frames := 3, cells := 0, slots := 0, locals := 67 }) (roP D ct (mR ct h r tl v) [.ref h, .int (nI d)]) (vp_Si (fun r => r = pLit v d)) 0 0 noA := by
  refine Met.ofW (cc := cX6_litNow) (maxL := 3) (ret := (some .int)) (by decide) rfl ?_
  intro p e s m args below meth c s₁ B hml hv
  obtain ⟨rfl, hP, hK, hN⟩ := hv
  have hx := B.exec
  have hb := B.bytes
  have hr := B.returns
  have hts := atoms_spec (ws := wsX6_litNow) B.pre
  have hown : s.vm.findClass RX6 = some m.cls := findClass_of_methodNamed B.named
  have hlocks := B.notSynchronized
  have w_1 := hts (.fieldLink RX6 7 "ScannedDigitsModel" "row" "[I") (List.mem_of_getElem? (i := 1) rfl)
  have hiX6 : ∀ w ∈ wsX60, w ∈ wsX6_litNow := fun w h => (goodIn_r wsX60 [27, 28, 29, 30, 31, 32, 33, 34, 35, 36, 37, 38, 39] (by decide +kernel) (by decide +kernel) w h).1
  have hl := lv_entry ([.ref h, .int (nI d)]) (n := 3) (Nat.le_of_ble_eq_true rfl)
  rw [lg_entry_eq]
  generalize (lg_sl ([.ref h, .int (nI d)]) ++ List.replicate (3 - (lg_sl ([.ref h, .int (nI d)])).length) Slot.unset).toArray = ls at hl ⊢
  have hl : lv_has ls 3 [(0, .ref h), (1, .int (nI d))] := hl
  have hd8 : d < 8 := Nat.lt_of_lt_of_le hd ok.n8
  have hs8 := ok.slot8
  refine lv_aload_n hx hb dX6_litNow_0 rfl (lv_at hl 0 rfl) ?_
  refine vp_callSi (va_runV (As := []) (rest := []) ⟨hx, hb, hml, hown, hts⟩ (k_X6_slotNow l D ct h r tl v ok) (cwV 0 hts gX6_litNow_X6_slotNow rfl rfl rfl (by decide +kernel) ⟨Nat.le_of_ble_eq_true rfl, Nat.le_of_ble_eq_true rfl⟩) ⟨roP.blind, va_recv hK hP (ci := 6) (q0 := 0) rfl rfl, roP.at hP hK hN⟩ rfl rfl hl.1 rfl (lv_room (Nat.le_of_ble_eq_true rfl)) dX6_litNow_1 ⟨Nat.le_of_ble_eq_true rfl, Nat.le_of_ble_eq_true rfl⟩).run (fun r_1 h_1 => ?_)
  obtain rfl : r_1 = nI (pSlot v) := h_1
  refine lv_iload_n hx hb dX6_litNow_4 rfl (lv_at hl 1 rfl) ?_
  refine lv_icmp_ne (tgt := 20) hx hb dX6_litNow_5 (by decide) (fun c_5 => ?_) (fun c_5 => ?_)
  · refine lv_iconst (v := 0) hx hb dX6_litNow_20 (by decide) ?_
    refine lv_istore_n (lv' := [(2, .int 0), (0, .ref h), (1, .int (nI d))]) hx hb dX6_litNow_21 rfl hl (by decide) rfl (fun ls hl => ?_)
    refine lv_iload_n hx hb dX6_litNow_22 rfl (lv_at hl 0 rfl) ?_
    refine lv_if_ne (tgt := 30) hx hb dX6_litNow_23 (by decide) (fun c_23 => ?_) (fun c_23 => ?_)
    · exact absurd rfl c_23
    · refine lv_iconst (v := 0) hx hb dX6_litNow_26 (by decide) ?_
      refine lv_goto (tgt := 64) hx hb dX6_litNow_27 (by decide) ?_
      exact W.iret (v := 0) hx hb hr (fun t ht hW => ⟨0, rfl, (if_neg (fun z => c_5 (congrArg nI z.1))).symm, ht⟩) (fun q hq => absurd hq List.not_mem_nil) dX6_litNow_64
  · have hsl : pSlot v = d := (nI_eq (by omega) (by omega)).mp c_5
    refine lv_aload_n hx hb dX6_litNow_8 rfl (lv_at hl 0 rfl) ?_
    refine lv_iload_n hx hb dX6_litNow_9 rfl (lv_at hl 1 rfl) ?_
    refine vp_callSi (va_runV (As := [.int (nI d)]) (rest := []) ⟨hx, hb, hml, hown, hts⟩ (k_X6_isDriven l D ct h r tl v d hd ok) (cwV 1 hts gX6_litNow_X6_isDriven rfl rfl rfl (by decide +kernel) ⟨Nat.le_of_ble_eq_true rfl, Nat.le_of_ble_eq_true rfl⟩) ⟨roP.blind, va_recv hK hP (ci := 6) (q0 := 0) rfl rfl, roP.at hP hK hN⟩ rfl rfl hl.1 rfl (lv_room (Nat.le_of_ble_eq_true rfl)) dX6_litNow_10 ⟨Nat.le_of_ble_eq_true rfl, Nat.le_of_ble_eq_true rfl⟩).run (fun r_10 h_10 => ?_)
    obtain rfl : r_10 = if pDrv v d then 1 else 0 := h_10
    refine lv_if_eq (tgt := 20) hx hb dX6_litNow_13 (by decide) (fun c_13 => ?_) (fun c_13 => ?_)
    · have hdr : ¬ pDrv v d := fun z => by rw [if_pos z] at c_13; exact absurd c_13 (by decide)
      refine lv_iconst (v := 0) hx hb dX6_litNow_20 (by decide) ?_
      refine lv_istore_n (lv' := [(2, .int 0), (0, .ref h), (1, .int (nI d))]) hx hb dX6_litNow_21 rfl hl (by decide) rfl (fun ls hl => ?_)
      refine lv_iload_n hx hb dX6_litNow_22 rfl (lv_at hl 0 rfl) ?_
      refine lv_if_ne (tgt := 30) hx hb dX6_litNow_23 (by decide) (fun c_23 => ?_) (fun c_23 => ?_)
      · exact absurd rfl c_23
      · refine lv_iconst (v := 0) hx hb dX6_litNow_26 (by decide) ?_
        refine lv_goto (tgt := 64) hx hb dX6_litNow_27 (by decide) ?_
        exact W.iret (v := 0) hx hb hr (fun t ht hW => ⟨0, rfl, (if_neg (fun z => hdr z.2)).symm, ht⟩) (fun q hq => absurd hq List.not_mem_nil) dX6_litNow_64
    · have hdr : pDrv v d := Classical.byContradiction (fun z => by rw [if_neg z] at c_13; exact c_13 rfl)
      refine lv_iconst (v := 1) hx hb dX6_litNow_16 (by decide) ?_
      refine lv_goto (tgt := 21) hx hb dX6_litNow_17 (by decide) ?_
      refine lv_istore_n (lv' := [(2, .int 1), (0, .ref h), (1, .int (nI d))]) hx hb dX6_litNow_21 rfl hl (by decide) rfl (fun ls hl => ?_)
      refine lv_iload_n hx hb dX6_litNow_22 rfl (lv_at hl 0 rfl) ?_
      refine lv_if_ne (tgt := 30) hx hb dX6_litNow_23 (by decide) (fun c_23 => ?_) (fun c_23 => ?_)
      · refine lv_aload_n hx hb dX6_litNow_30 rfl (lv_at hl 1 rfl) ?_
        refine va_get (D := D) (ci := 6) (v := .ref r) (C := RX6) (T := TX6) (N := 13) hx hb hts hiX6 hown hK hP 0 rfl rfl 0 (by decide) w_1 (fun _ h9 => h9) rfl dX6_litNow_31 ?_
        refine lv_iconst (v := 4) hx hb dX6_litNow_34 (by decide) ?_
        refine r_iald hx hb hK hP 1 0 rfl rfl (k := 4) (rfl) (by decide) (by decide) dX6_litNow_35 ?_
        refine lv_as (y := v.1 0 4) (row_0 v (by decide)) ?_
        refine lv_if_le (tgt := 45) hx hb dX6_litNow_36 (by decide) (fun c_36 => ?_) (fun c_36 => ?_)
        · refine lv_aload_n hx hb dX6_litNow_45 rfl (lv_at hl 1 rfl) ?_
          refine lv_iload_n hx hb dX6_litNow_46 rfl (lv_at hl 2 rfl) ?_
          refine lv_iconst (v := 0) hx hb dX6_litNow_47 (by decide) ?_
          refine vp_callSi (va_runV (As := [.int (nI d), .int 0]) (rest := []) ⟨hx, hb, hml, hown, hts⟩ (k_X6_of l D ct h r tl v d 0 hd8 (by decide)) (cwV 2 hts gX6_litNow_X6_of rfl rfl rfl (by decide +kernel) ⟨Nat.le_of_ble_eq_true rfl, Nat.le_of_ble_eq_true rfl⟩) ⟨roP.blind, va_recv hK hP (ci := 6) (q0 := 0) rfl rfl, roP.at hP hK hN⟩ rfl rfl hl.1 rfl (lv_room (Nat.le_of_ble_eq_true rfl)) dX6_litNow_48 ⟨Nat.le_of_ble_eq_true rfl, Nat.le_of_ble_eq_true rfl⟩).run (fun r_48 h_48 => ?_)
          obtain rfl : r_48 = v.1 (4 + d) 0 := h_48
          refine lv_aload_n hx hb dX6_litNow_51 rfl (lv_at hl 1 rfl) ?_
          refine va_get (D := D) (ci := 6) (v := .ref r) (C := RX6) (T := TX6) (N := 13) hx hb hts hiX6 hown hK hP 0 rfl rfl 0 (by decide) w_1 (fun _ h9 => h9) rfl dX6_litNow_52 ?_
          refine lv_sipush (v := 192) hx hb dX6_litNow_55 (by decide) ?_
          refine lv_iload_n hx hb dX6_litNow_58 rfl (lv_at hl 2 rfl) ?_
          refine lv_iadd hx hb dX6_litNow_59 ?_
          refine r_iald hx hb hK hP 1 0 rfl rfl (k := 192 + d) (ix_a 192 d 192 rfl) (by omega) (by decide) dX6_litNow_60 ?_
          refine lv_as (y := v.1 (4 + d) 6) (row_b v hd8) ?_
          refine lv_iconst (v := (-1)) hx hb dX6_litNow_61 (by decide) ?_
          refine lv_ixor hx hb dX6_litNow_62 ?_
          refine lv_iand hx hb dX6_litNow_63 ?_
          exact W.iret (v := ((v.1 (4 + d) 0) &&& ((v.1 (4 + d) 6) ^^^ (-1)))) hx hb hr (fun t ht hW => ⟨((v.1 (4 + d) 0) &&& ((v.1 (4 + d) 6) ^^^ (-1))), rfl, ((if_pos (show pSlot v = d ∧ pDrv v d from ⟨hsl, hdr⟩)).trans (by rw [if_neg (Int32.not_lt.mpr c_36)])).symm, ht⟩) (fun q hq => absurd hq List.not_mem_nil) dX6_litNow_64
        · refine lv_sipush (v := 255) hx hb dX6_litNow_39 (by decide) ?_
          refine lv_goto (tgt := 51) hx hb dX6_litNow_42 (by decide) ?_
          refine lv_aload_n hx hb dX6_litNow_51 rfl (lv_at hl 1 rfl) ?_
          refine va_get (D := D) (ci := 6) (v := .ref r) (C := RX6) (T := TX6) (N := 13) hx hb hts hiX6 hown hK hP 0 rfl rfl 0 (by decide) w_1 (fun _ h9 => h9) rfl dX6_litNow_52 ?_
          refine lv_sipush (v := 192) hx hb dX6_litNow_55 (by decide) ?_
          refine lv_iload_n hx hb dX6_litNow_58 rfl (lv_at hl 2 rfl) ?_
          refine lv_iadd hx hb dX6_litNow_59 ?_
          refine r_iald hx hb hK hP 1 0 rfl rfl (k := 192 + d) (ix_a 192 d 192 rfl) (by omega) (by decide) dX6_litNow_60 ?_
          refine lv_as (y := v.1 (4 + d) 6) (row_b v hd8) ?_
          refine lv_iconst (v := (-1)) hx hb dX6_litNow_61 (by decide) ?_
          refine lv_ixor hx hb dX6_litNow_62 ?_
          refine lv_iand hx hb dX6_litNow_63 ?_
          exact W.iret (v := (255 &&& ((v.1 (4 + d) 6) ^^^ (-1)))) hx hb hr (fun t ht hW => ⟨(255 &&& ((v.1 (4 + d) 6) ^^^ (-1))), rfl, ((if_pos (show pSlot v = d ∧ pDrv v d from ⟨hsl, hdr⟩)).trans (by rw [if_pos (i_not_le c_36)])).symm, ht⟩) (fun q hq => absurd hq List.not_mem_nil) dX6_litNow_64
      · exact absurd c_23 (by decide)

set_option maxHeartbeats 4000000 in
set_option maxRecDepth 100000 in
theorem k_X6_digitsIn (l : Launch) (D : va_G) (ct : Nat → ClassId) (h r : Nat) (tl : List Value) (v : SV) (g : Int32) (ok : Inv v) : Met l yX6_digitsIn wsX6_digitsIn ({ frames := 1, cells := 0, slots := 0, locals := 22 }) (roP D ct (mR ct h r tl v) [.ref h, .int g]) (vp_Si (fun r => r = pDin v g (nOf v))) 0 0 noA := by
  refine Met.ofW (cc := cX6_digitsIn) (maxL := 4) (ret := (some .int)) (by decide) rfl ?_
  intro p e s m args below meth c s₁ B hml hv
  obtain ⟨rfl, hP, hK, hN⟩ := hv
  have hx := B.exec
  have hb := B.bytes
  have hr := B.returns
  have hts := atoms_spec (ws := wsX6_digitsIn) B.pre
  have hown : s.vm.findClass RX6 = some m.cls := findClass_of_methodNamed B.named
  have hlocks := B.notSynchronized
  have w_1 := hts (.fieldLink RX6 7 "ScannedDigitsModel" "row" "[I") (List.mem_of_getElem? (i := 1) rfl)
  have hiX6 : ∀ w ∈ wsX60, w ∈ wsX6_digitsIn := fun w h => (goodIn_r wsX60 [7, 8, 9, 10, 11, 12, 13, 14, 15, 16, 17, 18, 19] (by decide +kernel) (by decide +kernel) w h).1
  have hl := lv_entry ([.ref h, .int g]) (n := 4) (Nat.le_of_ble_eq_true rfl)
  rw [lg_entry_eq]
  generalize (lg_sl ([.ref h, .int g]) ++ List.replicate (4 - (lg_sl ([.ref h, .int g])).length) Slot.unset).toArray = ls at hl ⊢
  have hl : lv_has ls 4 [(0, .ref h), (1, .int g)] := hl
  have n8 := ok.n8
  refine lv_iconst (v := 0) hx hb dX6_digitsIn_0 (by decide) ?_
  refine lv_istore_n (lv' := [(2, .int 0), (0, .ref h), (1, .int g)]) hx hb dX6_digitsIn_1 rfl hl (by decide) rfl (fun ls hl => ?_)
  refine lv_iconst (v := 0) hx hb dX6_digitsIn_2 (by decide) ?_
  refine lv_istore_n (lv' := [(3, .int 0), (2, .int 0), (0, .ref h), (1, .int g)]) hx hb dX6_digitsIn_3 rfl hl (by decide) rfl (fun ls hl => ?_)
  have loop_4 : ∀ (n_4 : Nat) (i : Nat) (x : Int32), i ≤ nOf v → nOf v + 1 ≤ i + n_4 → x = pDin v g i → ∀ (ls : Array Slot), lv_has ls 4 [(2, .int x), (3, .int (nI i)), (0, .ref h), (1, .int g)] → W p l e (headSpec wsX6_digitsIn ({ frames := 1, cells := 0, slots := 0, locals := 22 })).room s m #[.ref h, .int g] below meth c s.heap [] 0 0 (MQ below (vp_Si (fun r => r = pDin v g (nOf v))) #[.ref h, .int g] s 0 0 (noA)) (F0 m 4 ls []) := by
    intro n_4
    induction n_4 with
    | zero =>
      intro i x hi hn hx2
      exact absurd hn (by omega)
    | succ n_4 ih_4 =>
      intro i x hi hn hx2 ls hl
      refine lv_iload_n hx hb dX6_digitsIn_4 rfl (lv_at hl 1 rfl) ?_
      refine lv_aload_n hx hb dX6_digitsIn_5 rfl (lv_at hl 2 rfl) ?_
      refine va_get (D := D) (ci := 6) (v := .ref r) (C := RX6) (T := TX6) (N := 13) hx hb hts hiX6 hown hK hP 0 rfl rfl 0 (by decide) w_1 (fun _ h9 => h9) rfl dX6_digitsIn_6 ?_
      refine lv_iconst (v := 0) hx hb dX6_digitsIn_9 (by decide) ?_
      refine r_iald hx hb hK hP 1 0 rfl rfl (k := 0) (rfl) (by decide) (by decide) dX6_digitsIn_10 ?_
      refine lv_as (y := nI (nOf v)) ((row_0 v (by decide)).trans ok.cnt) ?_
      refine lv_icmp_ge (tgt := 38) hx hb dX6_digitsIn_11 (by decide) (fun c_11 => ?_) (fun c_11 => ?_)
      · have hge : nOf v ≤ i := nI_le' (by omega) (by omega) c_11
        refine lv_iload_n hx hb dX6_digitsIn_38 rfl (lv_at hl 0 rfl) ?_
        exact W.iret (v := x) hx hb hr (fun t ht hW => ⟨x, rfl, by rw [hx2, show i = nOf v by omega], ht⟩) (fun q hq => absurd hq List.not_mem_nil) dX6_digitsIn_39
      · have hlt : i < nOf v := nI_nle' (by omega) (by omega) c_11
        refine lv_iload_n hx hb dX6_digitsIn_14 rfl (lv_at hl 0 rfl) ?_
        refine lv_aload_n hx hb dX6_digitsIn_15 rfl (lv_at hl 2 rfl) ?_
        refine lv_iload_n hx hb dX6_digitsIn_16 rfl (lv_at hl 1 rfl) ?_
        refine lv_iconst (v := 4) hx hb dX6_digitsIn_17 (by decide) ?_
        refine vp_callSi (va_runV (As := [.int (nI i), .int 4]) (rest := [.int x]) ⟨hx, hb, hml, hown, hts⟩ (k_X6_of l D ct h r tl v i 4 (by omega) (by decide)) (cwV 2 hts gX6_digitsIn_X6_of rfl rfl rfl (by decide +kernel) ⟨Nat.le_of_ble_eq_true rfl, Nat.le_of_ble_eq_true rfl⟩) ⟨roP.blind, va_recv hK hP (ci := 6) (q0 := 0) rfl rfl, roP.at hP hK hN⟩ rfl rfl hl.1 rfl (lv_room (Nat.le_of_ble_eq_true rfl)) dX6_digitsIn_18 ⟨Nat.le_of_ble_eq_true rfl, Nat.le_of_ble_eq_true rfl⟩).run (fun r_18 h_18 => ?_)
        obtain rfl : r_18 = v.1 (4 + i) 4 := h_18
        refine lv_iload_n hx hb dX6_digitsIn_21 rfl (lv_at hl 3 rfl) ?_
        refine lv_icmp_ne (tgt := 29) hx hb dX6_digitsIn_22 (by decide) (fun c_22 => ?_) (fun c_22 => ?_)
        · refine lv_iconst (v := 0) hx hb dX6_digitsIn_29 (by decide) ?_
          refine lv_iadd hx hb dX6_digitsIn_30 ?_
          refine lv_istore_n (lv' := [(2, .int (x + 0)), (3, .int (nI i)), (0, .ref h), (1, .int g)]) hx hb dX6_digitsIn_31 rfl hl (by decide) rfl (fun ls hl => ?_)
          refine lv_iinc (v := nI (i + 1)) (lv' := [(3, .int (nI (i + 1))), (2, .int (x + 0)), (0, .ref h), (1, .int g)]) hx hb dX6_digitsIn_32 hl (k := 1) rfl ((nI_succ i).symm) (by decide) rfl (fun ls hl => ?_)
          refine lv_goto (tgt := 4) hx hb dX6_digitsIn_35 (by decide) ?_
          exact ih_4 (i + 1) _ (by omega) (by omega) (by rw [hx2]; show _ = _ + (if _ then _ else _); rw [if_neg c_22]) ls (lv_sub hl [1, 0, 2, 3] rfl)
        · refine lv_iconst (v := 1) hx hb dX6_digitsIn_25 (by decide) ?_
          refine lv_goto (tgt := 30) hx hb dX6_digitsIn_26 (by decide) ?_
          refine lv_iadd hx hb dX6_digitsIn_30 ?_
          refine lv_istore_n (lv' := [(2, .int (x + 1)), (3, .int (nI i)), (0, .ref h), (1, .int g)]) hx hb dX6_digitsIn_31 rfl hl (by decide) rfl (fun ls hl => ?_)
          refine lv_iinc (v := nI (i + 1)) (lv' := [(3, .int (nI (i + 1))), (2, .int (x + 1)), (0, .ref h), (1, .int g)]) hx hb dX6_digitsIn_32 hl (k := 1) rfl ((nI_succ i).symm) (by decide) rfl (fun ls hl => ?_)
          refine lv_goto (tgt := 4) hx hb dX6_digitsIn_35 (by decide) ?_
          exact ih_4 (i + 1) _ (by omega) (by omega) (by rw [hx2]; show _ = _ + (if _ then _ else _); rw [if_pos c_22]) ls (lv_sub hl [1, 0, 2, 3] rfl)
  exact loop_4 (nOf v + 1) 0 0 (Nat.zero_le _) (by omega) rfl ls (lv_sub hl [1, 0, 2, 3] rfl)

set_option maxHeartbeats 4000000 in
set_option maxRecDepth 100000 in
theorem k_X6_brokenOf (l : Launch) (D : va_G) (ct : Nat → ClassId) (h r : Nat) (tl : List Value) (v : SV) (d : Nat) (hd : d < 8) : Met l yX6_brokenOf wsX6_brokenOf ({ frames := 0, cells := 0, slots := 0, locals := 0 }) (roP D ct (mR ct h r tl v) [.ref h, .int (nI d)]) (vp_Si (fun r => r = pBro (v.1 (4 + d) 6) 8)) 0 0 noA := by
  refine Met.ofW (cc := cX6_brokenOf) (maxL := 4) (ret := (some .int)) (by decide) rfl ?_
  intro p e s m args below meth c s₁ B hml hv
  obtain ⟨rfl, hP, hK, hN⟩ := hv
  have hx := B.exec
  have hb := B.bytes
  have hr := B.returns
  have hts := atoms_spec (ws := wsX6_brokenOf) B.pre
  have hown : s.vm.findClass RX6 = some m.cls := findClass_of_methodNamed B.named
  have hlocks := B.notSynchronized
  have w_1 := hts (.fieldLink RX6 7 "ScannedDigitsModel" "row" "[I") (List.mem_of_getElem? (i := 1) rfl)
  have hiX6 : ∀ w ∈ wsX60, w ∈ wsX6_brokenOf := fun w h => (goodIn_r wsX60 [2, 3, 4, 5, 6, 7, 8, 9, 10, 11, 12, 13, 14] (by decide +kernel) (by decide +kernel) w h).1
  have hl := lv_entry ([.ref h, .int (nI d)]) (n := 4) (Nat.le_of_ble_eq_true rfl)
  rw [lg_entry_eq]
  generalize (lg_sl ([.ref h, .int (nI d)]) ++ List.replicate (4 - (lg_sl ([.ref h, .int (nI d)])).length) Slot.unset).toArray = ls at hl ⊢
  have hl : lv_has ls 4 [(0, .ref h), (1, .int (nI d))] := hl
  refine lv_iconst (v := 0) hx hb dX6_brokenOf_0 (by decide) ?_
  refine lv_istore_n (lv' := [(2, .int 0), (0, .ref h), (1, .int (nI d))]) hx hb dX6_brokenOf_1 rfl hl (by decide) rfl (fun ls hl => ?_)
  refine lv_iconst (v := 0) hx hb dX6_brokenOf_2 (by decide) ?_
  refine lv_istore_n (lv' := [(3, .int 0), (2, .int 0), (0, .ref h), (1, .int (nI d))]) hx hb dX6_brokenOf_3 rfl hl (by decide) rfl (fun ls hl => ?_)
  have loop_4 : ∀ (n_4 : Nat) (i : Nat) (x : Int32), i ≤ 8 → 9 ≤ i + n_4 → x = pBro (v.1 (4 + d) 6) i → ∀ (ls : Array Slot), lv_has ls 4 [(2, .int x), (3, .int (nI i)), (0, .ref h), (1, .int (nI d))] → W p l e (headSpec wsX6_brokenOf ({ frames := 0, cells := 0, slots := 0, locals := 0 })).room s m #[.ref h, .int (nI d)] below meth c s.heap [] 0 0 (MQ below (vp_Si (fun r => r = pBro (v.1 (4 + d) 6) 8)) #[.ref h, .int (nI d)] s 0 0 (noA)) (F0 m 4 ls []) := by
    intro n_4
    induction n_4 with
    | zero =>
      intro i x hi hn hx2
      exact absurd hn (by omega)
    | succ n_4 ih_4 =>
      intro i x hi hn hx2 ls hl
      refine lv_iload_n hx hb dX6_brokenOf_4 rfl (lv_at hl 1 rfl) ?_
      refine lv_bipush (v := 8) hx hb dX6_brokenOf_5 (by decide) ?_
      refine lv_icmp_ge (tgt := 33) hx hb dX6_brokenOf_7 (by decide) (fun c_7 => ?_) (fun c_7 => ?_)
      · have hge : 8 ≤ i := nI_le' (by decide) (by omega) c_7
        refine lv_iload_n hx hb dX6_brokenOf_33 rfl (lv_at hl 0 rfl) ?_
        exact W.iret (v := x) hx hb hr (fun t ht hW => ⟨x, rfl, by rw [hx2, show i = 8 by omega], ht⟩) (fun q hq => absurd hq List.not_mem_nil) dX6_brokenOf_34
      · have hlt : i < 8 := nI_nle' (by decide) (by omega) c_7
        refine lv_iload_n hx hb dX6_brokenOf_10 rfl (lv_at hl 0 rfl) ?_
        refine lv_aload_n hx hb dX6_brokenOf_11 rfl (lv_at hl 2 rfl) ?_
        refine va_get (D := D) (ci := 6) (v := .ref r) (C := RX6) (T := TX6) (N := 13) hx hb hts hiX6 hown hK hP 0 rfl rfl 0 (by decide) w_1 (fun _ h9 => h9) rfl dX6_brokenOf_12 ?_
        refine lv_sipush (v := 192) hx hb dX6_brokenOf_15 (by decide) ?_
        refine lv_iload_n hx hb dX6_brokenOf_18 rfl (lv_at hl 3 rfl) ?_
        refine lv_iadd hx hb dX6_brokenOf_19 ?_
        refine r_iald hx hb hK hP 1 0 rfl rfl (k := 192 + d) (ix_a 192 d 192 rfl) (by omega) (by decide) dX6_brokenOf_20 ?_
        refine lv_as (y := v.1 (4 + d) 6) (row_b v hd) ?_
        refine lv_iload_n hx hb dX6_brokenOf_21 rfl (lv_at hl 1 rfl) ?_
        refine lv_ishr hx hb dX6_brokenOf_22 ?_
        refine lv_iconst (v := 1) hx hb dX6_brokenOf_23 (by decide) ?_
        refine lv_iand hx hb dX6_brokenOf_24 ?_
        refine lv_iadd hx hb dX6_brokenOf_25 ?_
        refine lv_istore_n (lv' := [(2, .int (x + (((v.1 (4 + d) 6) >>> ((nI i) &&& 31)) &&& 1))), (3, .int (nI i)), (0, .ref h), (1, .int (nI d))]) hx hb dX6_brokenOf_26 rfl hl (by decide) rfl (fun ls hl => ?_)
        refine lv_iinc (v := nI (i + 1)) (lv' := [(3, .int (nI (i + 1))), (2, .int (x + (((v.1 (4 + d) 6) >>> ((nI i) &&& 31)) &&& 1))), (0, .ref h), (1, .int (nI d))]) hx hb dX6_brokenOf_27 hl (k := 1) rfl ((nI_succ i).symm) (by decide) rfl (fun ls hl => ?_)
        refine lv_goto (tgt := 4) hx hb dX6_brokenOf_30 (by decide) ?_
        exact ih_4 (i + 1) _ (by omega) (by omega) (by rw [hx2]; rfl) ls (lv_sub hl [1, 0, 2, 3] rfl)
  exact loop_4 (9) 0 0 (Nat.zero_le _) (by omega) rfl ls (lv_sub hl [1, 0, 2, 3] rfl)

set_option maxHeartbeats 4000000 in
set_option maxRecDepth 100000 in
theorem k_X6_broken (l : Launch) (D : va_G) (ct : Nat → ClassId) (h r : Nat) (tl : List Value) (v : SV) (ok : Inv v) : Met l yX6_broken wsX6_broken ({ frames := 1, cells := 0, slots := 0, locals := 23 }) (roP D ct (mR ct h r tl v) [.ref h]) (vp_Si (fun r => r = pBroS v (nOf v))) 0 0 noA := by
  refine Met.ofW (cc := cX6_broken) (maxL := 3) (ret := (some .int)) (by decide) rfl ?_
  intro p e s m args below meth c s₁ B hml hv
  obtain ⟨rfl, hP, hK, hN⟩ := hv
  have hx := B.exec
  have hb := B.bytes
  have hr := B.returns
  have hts := atoms_spec (ws := wsX6_broken) B.pre
  have hown : s.vm.findClass RX6 = some m.cls := findClass_of_methodNamed B.named
  have hlocks := B.notSynchronized
  have w_1 := hts (.fieldLink RX6 7 "ScannedDigitsModel" "row" "[I") (List.mem_of_getElem? (i := 1) rfl)
  have hiX6 : ∀ w ∈ wsX60, w ∈ wsX6_broken := fun w h => (goodIn_r wsX60 [7, 8, 9, 10, 11, 12, 13, 14, 15, 16, 17, 18, 19] (by decide +kernel) (by decide +kernel) w h).1
  have hl := lv_entry ([.ref h]) (n := 3) (Nat.le_of_ble_eq_true rfl)
  rw [lg_entry_eq]
  generalize (lg_sl ([.ref h]) ++ List.replicate (3 - (lg_sl ([.ref h])).length) Slot.unset).toArray = ls at hl ⊢
  have hl : lv_has ls 3 [(0, .ref h)] := hl
  have n8 := ok.n8
  refine lv_iconst (v := 0) hx hb dX6_broken_0 (by decide) ?_
  refine lv_istore_n (lv' := [(1, .int 0), (0, .ref h)]) hx hb dX6_broken_1 rfl hl (by decide) rfl (fun ls hl => ?_)
  refine lv_iconst (v := 0) hx hb dX6_broken_2 (by decide) ?_
  refine lv_istore_n (lv' := [(2, .int 0), (1, .int 0), (0, .ref h)]) hx hb dX6_broken_3 rfl hl (by decide) rfl (fun ls hl => ?_)
  have loop_4 : ∀ (n_4 : Nat) (i : Nat) (x : Int32), i ≤ nOf v → nOf v + 1 ≤ i + n_4 → x = pBroS v i → ∀ (ls : Array Slot), lv_has ls 3 [(1, .int x), (2, .int (nI i)), (0, .ref h)] → W p l e (headSpec wsX6_broken ({ frames := 1, cells := 0, slots := 0, locals := 23 })).room s m #[.ref h] below meth c s.heap [] 0 0 (MQ below (vp_Si (fun r => r = pBroS v (nOf v))) #[.ref h] s 0 0 (noA)) (F0 m 4 ls []) := by
    intro n_4
    induction n_4 with
    | zero =>
      intro i x hi hn hx2
      exact absurd hn (by omega)
    | succ n_4 ih_4 =>
      intro i x hi hn hx2 ls hl
      refine lv_iload_n hx hb dX6_broken_4 rfl (lv_at hl 1 rfl) ?_
      refine lv_aload_n hx hb dX6_broken_5 rfl (lv_at hl 2 rfl) ?_
      refine va_get (D := D) (ci := 6) (v := .ref r) (C := RX6) (T := TX6) (N := 13) hx hb hts hiX6 hown hK hP 0 rfl rfl 0 (by decide) w_1 (fun _ h9 => h9) rfl dX6_broken_6 ?_
      refine lv_iconst (v := 0) hx hb dX6_broken_9 (by decide) ?_
      refine r_iald hx hb hK hP 1 0 rfl rfl (k := 0) (rfl) (by decide) (by decide) dX6_broken_10 ?_
      refine lv_as (y := nI (nOf v)) ((row_0 v (by decide)).trans ok.cnt) ?_
      refine lv_icmp_ge (tgt := 28) hx hb dX6_broken_11 (by decide) (fun c_11 => ?_) (fun c_11 => ?_)
      · have hge : nOf v ≤ i := nI_le' (by omega) (by omega) c_11
        refine lv_iload_n hx hb dX6_broken_28 rfl (lv_at hl 0 rfl) ?_
        exact W.iret (v := x) hx hb hr (fun t ht hW => ⟨x, rfl, by rw [hx2, show i = nOf v by omega], ht⟩) (fun q hq => absurd hq List.not_mem_nil) dX6_broken_29
      · have hlt : i < nOf v := nI_nle' (by omega) (by omega) c_11
        refine lv_iload_n hx hb dX6_broken_14 rfl (lv_at hl 0 rfl) ?_
        refine lv_aload_n hx hb dX6_broken_15 rfl (lv_at hl 2 rfl) ?_
        refine lv_iload_n hx hb dX6_broken_16 rfl (lv_at hl 1 rfl) ?_
        refine vp_callSi (va_runV (As := [.int (nI i)]) (rest := [.int x]) ⟨hx, hb, hml, hown, hts⟩ (k_X6_brokenOf l D ct h r tl v i (by omega)) (cwV 1 hts gX6_broken_X6_brokenOf rfl rfl rfl (by decide +kernel) ⟨Nat.le_of_ble_eq_true rfl, Nat.le_of_ble_eq_true rfl⟩) ⟨roP.blind, va_recv hK hP (ci := 6) (q0 := 0) rfl rfl, roP.at hP hK hN⟩ rfl rfl hl.1 rfl (lv_room (Nat.le_of_ble_eq_true rfl)) dX6_broken_17 ⟨Nat.le_of_ble_eq_true rfl, Nat.le_of_ble_eq_true rfl⟩).run (fun r_17 h_17 => ?_)
        obtain rfl : r_17 = pBro (v.1 (4 + i) 6) 8 := h_17
        refine lv_iadd hx hb dX6_broken_20 ?_
        refine lv_istore_n (lv' := [(1, .int (x + (pBro (v.1 (4 + i) 6) 8))), (2, .int (nI i)), (0, .ref h)]) hx hb dX6_broken_21 rfl hl (by decide) rfl (fun ls hl => ?_)
        refine lv_iinc (v := nI (i + 1)) (lv' := [(2, .int (nI (i + 1))), (1, .int (x + (pBro (v.1 (4 + i) 6) 8))), (0, .ref h)]) hx hb dX6_broken_22 hl (k := 1) rfl ((nI_succ i).symm) (by decide) rfl (fun ls hl => ?_)
        refine lv_goto (tgt := 4) hx hb dX6_broken_25 (by decide) ?_
        exact ih_4 (i + 1) _ (by omega) (by omega) (by rw [hx2]; rfl) ls (lv_sub hl [1, 0, 2] rfl)
  exact loop_4 (nOf v + 1) 0 0 (Nat.zero_le _) (by omega) rfl ls (lv_sub hl [1, 0, 2] rfl)

set_option maxHeartbeats 4000000 in
set_option maxRecDepth 100000 in
theorem k_X6_brighter (l : Launch) (D : va_G) (ct : Nat → ClassId) (g : Int32) : Met l yX6_brighter wsX6_brighter ({ frames := 0, cells := 0, slots := 0, locals := 0 }) (roP D ct ([]) [.int g]) (vp_Si (fun r => r = pBri g)) 0 0 noA := by
  refine Met.ofW (cc := cX6_brighter) (maxL := 3) (ret := (some .int)) (by decide) rfl ?_
  intro p e s m args below meth c s₁ B hml hv
  obtain ⟨rfl, hP, hK, hN⟩ := hv
  have hx := B.exec
  have hb := B.bytes
  have hr := B.returns
  have hts := atoms_spec (ws := wsX6_brighter) B.pre
  have hown : s.vm.findClass RX6 = some m.cls := findClass_of_methodNamed B.named
  have hlocks := B.notSynchronized
  have hl := lv_entry ([.int g]) (n := 3) (Nat.le_of_ble_eq_true rfl)
  rw [lg_entry_eq]
  generalize (lg_sl ([.int g]) ++ List.replicate (3 - (lg_sl ([.int g])).length) Slot.unset).toArray = ls at hl ⊢
  have hl : lv_has ls 3 [(0, .int g)] := hl
  refine lv_sipush (v := 1000) hx hb dX6_brighter_0 (by decide) ?_
  refine lv_iload_n hx hb dX6_brighter_3 rfl (lv_at hl 0 rfl) ?_
  refine lv_isub hx hb dX6_brighter_4 ?_
  refine lv_iconst (v := 4) hx hb dX6_brighter_5 (by decide) ?_
  refine lv_idiv hx hb dX6_brighter_6 (by decide) ?_
  refine lv_istore_n (lv' := [(1, .int ((1000 - g) / 4)), (0, .int g)]) hx hb dX6_brighter_7 rfl hl (by decide) rfl (fun ls hl => ?_)
  refine lv_iload_n hx hb dX6_brighter_8 rfl (lv_at hl 1 rfl) ?_
  refine lv_iload_n hx hb dX6_brighter_9 rfl (lv_at hl 0 rfl) ?_
  refine lv_iconst (v := 1) hx hb dX6_brighter_10 (by decide) ?_
  refine lv_icmp_ge (tgt := 18) hx hb dX6_brighter_11 (by decide) (fun c_11 => ?_) (fun c_11 => ?_)
  · have hgn : (1000 - g) / 4 = pGain g := (if_pos c_11).symm
    refine lv_iload_n hx hb dX6_brighter_18 rfl (lv_at hl 0 rfl) ?_
    refine lv_iadd hx hb dX6_brighter_19 ?_
    refine lv_istore_n (lv' := [(2, .int (g + ((1000 - g) / 4))), (1, .int ((1000 - g) / 4)), (0, .int g)]) hx hb dX6_brighter_20 rfl hl (by decide) rfl (fun ls hl => ?_)
    refine lv_iload_n hx hb dX6_brighter_21 rfl (lv_at hl 0 rfl) ?_
    refine lv_sipush (v := 1000) hx hb dX6_brighter_22 (by decide) ?_
    refine lv_icmp_le (tgt := 34) hx hb dX6_brighter_25 (by decide) (fun c_25 => ?_) (fun c_25 => ?_)
    · refine lv_iload_n hx hb dX6_brighter_34 rfl (lv_at hl 0 rfl) ?_
      exact W.iret (v := (g + ((1000 - g) / 4))) hx hb hr (fun t ht hW => ⟨(g + ((1000 - g) / 4)), rfl, by unfold pBri; rw [← hgn]; exact (if_pos c_25).symm, ht⟩) (fun q hq => absurd hq List.not_mem_nil) dX6_brighter_35
    · refine lv_sipush (v := 1000) hx hb dX6_brighter_28 (by decide) ?_
      refine lv_goto (tgt := 35) hx hb dX6_brighter_31 (by decide) ?_
      exact W.iret (v := 1000) hx hb hr (fun t ht hW => ⟨1000, rfl, by unfold pBri; rw [← hgn]; exact (if_neg c_25).symm, ht⟩) (fun q hq => absurd hq List.not_mem_nil) dX6_brighter_35
  · have hgn : 1 = pGain g := (if_neg c_11).symm
    refine lv_iconst (v := 1) hx hb dX6_brighter_14 (by decide) ?_
    refine lv_goto (tgt := 19) hx hb dX6_brighter_15 (by decide) ?_
    refine lv_iadd hx hb dX6_brighter_19 ?_
    refine lv_istore_n (lv' := [(2, .int (g + 1)), (1, .int ((1000 - g) / 4)), (0, .int g)]) hx hb dX6_brighter_20 rfl hl (by decide) rfl (fun ls hl => ?_)
    refine lv_iload_n hx hb dX6_brighter_21 rfl (lv_at hl 0 rfl) ?_
    refine lv_sipush (v := 1000) hx hb dX6_brighter_22 (by decide) ?_
    refine lv_icmp_le (tgt := 34) hx hb dX6_brighter_25 (by decide) (fun c_25 => ?_) (fun c_25 => ?_)
    · refine lv_iload_n hx hb dX6_brighter_34 rfl (lv_at hl 0 rfl) ?_
      exact W.iret (v := (g + 1)) hx hb hr (fun t ht hW => ⟨(g + 1), rfl, by unfold pBri; rw [← hgn]; exact (if_pos c_25).symm, ht⟩) (fun q hq => absurd hq List.not_mem_nil) dX6_brighter_35
    · refine lv_sipush (v := 1000) hx hb dX6_brighter_28 (by decide) ?_
      refine lv_goto (tgt := 35) hx hb dX6_brighter_31 (by decide) ?_
      exact W.iret (v := 1000) hx hb hr (fun t ht hW => ⟨1000, rfl, by unfold pBri; rw [← hgn]; exact (if_neg c_25).symm, ht⟩) (fun q hq => absurd hq List.not_mem_nil) dX6_brighter_35

set_option maxHeartbeats 4000000 in
set_option maxRecDepth 100000 in
theorem k_X6_darker (l : Launch) (D : va_G) (ct : Nat → ClassId) (h r : Nat) (tl : List Value) (v : SV) (g : Int32) (hz : ¬ v.1 3 0 = 0) : Met l yX6_darker wsX6_darker ({ frames := 0, cells := 0, slots := 0, locals := 0 }) (roP D ct (mR ct h r tl v) [.ref h, .int g]) (vp_Si (fun r => r = pDar g (v.1 3 0))) 0 0 noA := by
  refine Met.ofW (cc := cX6_darker) (maxL := 3) (ret := (some .int)) (by decide) rfl ?_
  intro p e s m args below meth c s₁ B hml hv
  obtain ⟨rfl, hP, hK, hN⟩ := hv
  have hx := B.exec
  have hb := B.bytes
  have hr := B.returns
  have hts := atoms_spec (ws := wsX6_darker) B.pre
  have hown : s.vm.findClass RX6 = some m.cls := findClass_of_methodNamed B.named
  have hlocks := B.notSynchronized
  have w_1 := hts (.fieldLink RX6 7 "ScannedDigitsModel" "row" "[I") (List.mem_of_getElem? (i := 1) rfl)
  have hiX6 : ∀ w ∈ wsX60, w ∈ wsX6_darker := fun w h => (goodIn_r wsX60 [2, 3, 4, 5, 6, 7, 8, 9, 10, 11, 12, 13, 14] (by decide +kernel) (by decide +kernel) w h).1
  have hl := lv_entry ([.ref h, .int g]) (n := 3) (Nat.le_of_ble_eq_true rfl)
  rw [lg_entry_eq]
  generalize (lg_sl ([.ref h, .int g]) ++ List.replicate (3 - (lg_sl ([.ref h, .int g])).length) Slot.unset).toArray = ls at hl ⊢
  have hl : lv_has ls 3 [(0, .ref h), (1, .int g)] := hl
  refine lv_iload_n hx hb dX6_darker_0 rfl (lv_at hl 1 rfl) ?_
  refine lv_iload_n hx hb dX6_darker_1 rfl (lv_at hl 1 rfl) ?_
  refine lv_aload_n hx hb dX6_darker_2 rfl (lv_at hl 0 rfl) ?_
  refine va_get (D := D) (ci := 6) (v := .ref r) (C := RX6) (T := TX6) (N := 13) hx hb hts hiX6 hown hK hP 0 rfl rfl 0 (by decide) w_1 (fun _ h9 => h9) rfl dX6_darker_3 ?_
  refine lv_bipush (v := 6) hx hb dX6_darker_6 (by decide) ?_
  refine r_iald hx hb hK hP 1 0 rfl rfl (k := 6) (rfl) (by decide) (by decide) dX6_darker_8 ?_
  refine lv_as (y := v.1 3 0) (row_3 v (j := 0) (by decide)) ?_
  refine lv_idiv hx hb dX6_darker_9 (hz) ?_
  refine lv_isub hx hb dX6_darker_10 ?_
  refine lv_iconst (v := 1) hx hb dX6_darker_11 (by decide) ?_
  refine lv_isub hx hb dX6_darker_12 ?_
  refine lv_istore_n (lv' := [(2, .int ((g - (g / (v.1 3 0))) - 1)), (0, .ref h), (1, .int g)]) hx hb dX6_darker_13 rfl hl (by decide) rfl (fun ls hl => ?_)
  refine lv_iload_n hx hb dX6_darker_14 rfl (lv_at hl 0 rfl) ?_
  refine lv_if_ge (tgt := 22) hx hb dX6_darker_15 (by decide) (fun c_15 => ?_) (fun c_15 => ?_)
  · refine lv_iload_n hx hb dX6_darker_22 rfl (lv_at hl 0 rfl) ?_
    exact W.iret (v := ((g - (g / (v.1 3 0))) - 1)) hx hb hr (fun t ht hW => ⟨((g - (g / (v.1 3 0))) - 1), rfl, (if_pos c_15).symm, ht⟩) (fun q hq => absurd hq List.not_mem_nil) dX6_darker_23
  · refine lv_iconst (v := 0) hx hb dX6_darker_18 (by decide) ?_
    refine lv_goto (tgt := 23) hx hb dX6_darker_19 (by decide) ?_
    exact W.iret (v := 0) hx hb hr (fun t ht hW => ⟨0, rfl, (if_neg c_15).symm, ht⟩) (fun q hq => absurd hq List.not_mem_nil) dX6_darker_23

set_option maxHeartbeats 4000000 in
set_option maxRecDepth 100000 in
theorem k_X6_seenOf (l : Launch) (D : va_G) (ct : Nat → ClassId) (h r : Nat) (tl : List Value) (v : SV) (d : Nat) (hd : d < 8) : Met l yX6_seenOf wsX6_seenOf ({ frames := 0, cells := 0, slots := 0, locals := 0 }) (roP D ct (mR ct h r tl v) [.ref h, .int (nI d)]) (vp_Si (fun r => r = pSeen (v.1 (12 + d)) (v.1 3 1) 8)) 0 0 noA := by
  refine Met.ofW (cc := cX6_seenOf) (maxL := 4) (ret := (some .int)) (by decide) rfl ?_
  intro p e s m args below meth c s₁ B hml hv
  obtain ⟨rfl, hP, hK, hN⟩ := hv
  have hx := B.exec
  have hb := B.bytes
  have hr := B.returns
  have hts := atoms_spec (ws := wsX6_seenOf) B.pre
  have hown : s.vm.findClass RX6 = some m.cls := findClass_of_methodNamed B.named
  have hlocks := B.notSynchronized
  have w_1 := hts (.fieldLink RX6 7 "ScannedDigitsModel" "row" "[I") (List.mem_of_getElem? (i := 1) rfl)
  have hiX6 : ∀ w ∈ wsX60, w ∈ wsX6_seenOf := fun w h => (goodIn_r wsX60 [2, 3, 4, 5, 6, 7, 8, 9, 10, 11, 12, 13, 14] (by decide +kernel) (by decide +kernel) w h).1
  have hl := lv_entry ([.ref h, .int (nI d)]) (n := 4) (Nat.le_of_ble_eq_true rfl)
  rw [lg_entry_eq]
  generalize (lg_sl ([.ref h, .int (nI d)]) ++ List.replicate (4 - (lg_sl ([.ref h, .int (nI d)])).length) Slot.unset).toArray = ls at hl ⊢
  have hl : lv_has ls 4 [(0, .ref h), (1, .int (nI d))] := hl
  refine lv_iconst (v := 0) hx hb dX6_seenOf_0 (by decide) ?_
  refine lv_istore_n (lv' := [(2, .int 0), (0, .ref h), (1, .int (nI d))]) hx hb dX6_seenOf_1 rfl hl (by decide) rfl (fun ls hl => ?_)
  refine lv_iconst (v := 0) hx hb dX6_seenOf_2 (by decide) ?_
  refine lv_istore_n (lv' := [(3, .int 0), (2, .int 0), (0, .ref h), (1, .int (nI d))]) hx hb dX6_seenOf_3 rfl hl (by decide) rfl (fun ls hl => ?_)
  have loop_4 : ∀ (n_4 : Nat) (i : Nat) (x : Int32), i ≤ 8 → 9 ≤ i + n_4 → x = pSeen (v.1 (12 + d)) (v.1 3 1) i → ∀ (ls : Array Slot), lv_has ls 4 [(2, .int x), (3, .int (nI i)), (0, .ref h), (1, .int (nI d))] → W p l e (headSpec wsX6_seenOf ({ frames := 0, cells := 0, slots := 0, locals := 0 })).room s m #[.ref h, .int (nI d)] below meth c s.heap [] 0 0 (MQ below (vp_Si (fun r => r = pSeen (v.1 (12 + d)) (v.1 3 1) 8)) #[.ref h, .int (nI d)] s 0 0 (noA)) (F0 m 4 ls []) := by
    intro n_4
    induction n_4 with
    | zero =>
      intro i x hi hn hx2
      exact absurd hn (by omega)
    | succ n_4 ih_4 =>
      intro i x hi hn hx2 ls hl
      refine lv_iload_n hx hb dX6_seenOf_4 rfl (lv_at hl 1 rfl) ?_
      refine lv_bipush (v := 8) hx hb dX6_seenOf_5 (by decide) ?_
      refine lv_icmp_ge (tgt := 50) hx hb dX6_seenOf_7 (by decide) (fun c_7 => ?_) (fun c_7 => ?_)
      · have hge : 8 ≤ i := nI_le' (by decide) (by omega) c_7
        refine lv_iload_n hx hb dX6_seenOf_50 rfl (lv_at hl 0 rfl) ?_
        exact W.iret (v := x) hx hb hr (fun t ht hW => ⟨x, rfl, by rw [hx2, show i = 8 by omega], ht⟩) (fun q hq => absurd hq List.not_mem_nil) dX6_seenOf_51
      · have hlt : i < 8 := nI_nle' (by decide) (by omega) c_7
        refine lv_iload_n hx hb dX6_seenOf_10 rfl (lv_at hl 0 rfl) ?_
        refine lv_aload_n hx hb dX6_seenOf_11 rfl (lv_at hl 2 rfl) ?_
        refine va_get (D := D) (ci := 6) (v := .ref r) (C := RX6) (T := TX6) (N := 13) hx hb hts hiX6 hown hK hP 0 rfl rfl 0 (by decide) w_1 (fun _ h9 => h9) rfl dX6_seenOf_12 ?_
        refine lv_bipush (v := 64) hx hb dX6_seenOf_15 (by decide) ?_
        refine lv_bipush (v := 8) hx hb dX6_seenOf_17 (by decide) ?_
        refine lv_iload_n hx hb dX6_seenOf_19 rfl (lv_at hl 3 rfl) ?_
        refine lv_imul hx hb dX6_seenOf_20 ?_
        refine lv_iadd hx hb dX6_seenOf_21 ?_
        refine lv_iload_n hx hb dX6_seenOf_22 rfl (lv_at hl 1 rfl) ?_
        refine lv_iadd hx hb dX6_seenOf_23 ?_
        refine r_iald hx hb hK hP 1 0 rfl rfl (k := 64 + 8 * d + i) (ix_8 64 d i 64 rfl) (by omega) (by decide) dX6_seenOf_24 ?_
        refine lv_as (y := v.1 (12 + d) i) (row_g v hd hlt) ?_
        refine lv_aload_n hx hb dX6_seenOf_25 rfl (lv_at hl 2 rfl) ?_
        refine va_get (D := D) (ci := 6) (v := .ref r) (C := RX6) (T := TX6) (N := 13) hx hb hts hiX6 hown hK hP 0 rfl rfl 0 (by decide) w_1 (fun _ h9 => h9) rfl dX6_seenOf_26 ?_
        refine lv_bipush (v := 7) hx hb dX6_seenOf_29 (by decide) ?_
        refine r_iald hx hb hK hP 1 0 rfl rfl (k := 7) (rfl) (by decide) (by decide) dX6_seenOf_31 ?_
        refine lv_as (y := v.1 3 1) (row_3 v (j := 1) (by decide)) ?_
        refine lv_icmp_lt (tgt := 41) hx hb dX6_seenOf_32 (by decide) (fun c_32 => ?_) (fun c_32 => ?_)
        · refine lv_iconst (v := 0) hx hb dX6_seenOf_41 (by decide) ?_
          refine lv_ior hx hb dX6_seenOf_42 ?_
          refine lv_istore_n (lv' := [(2, .int (x ||| 0)), (3, .int (nI i)), (0, .ref h), (1, .int (nI d))]) hx hb dX6_seenOf_43 rfl hl (by decide) rfl (fun ls hl => ?_)
          refine lv_iinc (v := nI (i + 1)) (lv' := [(3, .int (nI (i + 1))), (2, .int (x ||| 0)), (0, .ref h), (1, .int (nI d))]) hx hb dX6_seenOf_44 hl (k := 1) rfl ((nI_succ i).symm) (by decide) rfl (fun ls hl => ?_)
          refine lv_goto (tgt := 4) hx hb dX6_seenOf_47 (by decide) ?_
          exact ih_4 (i + 1) _ (by omega) (by omega) (by rw [hx2]; show _ = _ ||| (if _ then _ else _); rw [if_pos c_32]) ls (lv_sub hl [1, 0, 2, 3] rfl)
        · refine lv_iconst (v := 1) hx hb dX6_seenOf_35 (by decide) ?_
          refine lv_iload_n hx hb dX6_seenOf_36 rfl (lv_at hl 1 rfl) ?_
          refine lv_ishl hx hb dX6_seenOf_37 ?_
          refine lv_goto (tgt := 42) hx hb dX6_seenOf_38 (by decide) ?_
          refine lv_ior hx hb dX6_seenOf_42 ?_
          refine lv_istore_n (lv' := [(2, .int (x ||| (1 <<< ((nI i) &&& 31)))), (3, .int (nI i)), (0, .ref h), (1, .int (nI d))]) hx hb dX6_seenOf_43 rfl hl (by decide) rfl (fun ls hl => ?_)
          refine lv_iinc (v := nI (i + 1)) (lv' := [(3, .int (nI (i + 1))), (2, .int (x ||| (1 <<< ((nI i) &&& 31)))), (0, .ref h), (1, .int (nI d))]) hx hb dX6_seenOf_44 hl (k := 1) rfl ((nI_succ i).symm) (by decide) rfl (fun ls hl => ?_)
          refine lv_goto (tgt := 4) hx hb dX6_seenOf_47 (by decide) ?_
          exact ih_4 (i + 1) _ (by omega) (by omega) (by rw [hx2]; show _ = _ ||| (if _ then _ else _); rw [if_neg c_32]) ls (lv_sub hl [1, 0, 2, 3] rfl)
  exact loop_4 (9) 0 0 (Nat.zero_le _) (by omega) rfl ls (lv_sub hl [1, 0, 2, 3] rfl)

set_option maxHeartbeats 4000000 in
set_option maxRecDepth 100000 in
theorem k_X6_glowOf (l : Launch) (D : va_G) (ct : Nat → ClassId) (h r : Nat) (tl : List Value) (v : SV) (d : Nat) (hd : d < 8) : Met l yX6_glowOf wsX6_glowOf ({ frames := 0, cells := 0, slots := 0, locals := 0 }) (roP D ct (mR ct h r tl v) [.ref h, .int (nI d)]) (vp_Si (fun r => r = pSum (v.1 (12 + d)) 8)) 0 0 noA := by
  refine Met.ofW (cc := cX6_glowOf) (maxL := 4) (ret := (some .int)) (by decide) rfl ?_
  intro p e s m args below meth c s₁ B hml hv
  obtain ⟨rfl, hP, hK, hN⟩ := hv
  have hx := B.exec
  have hb := B.bytes
  have hr := B.returns
  have hts := atoms_spec (ws := wsX6_glowOf) B.pre
  have hown : s.vm.findClass RX6 = some m.cls := findClass_of_methodNamed B.named
  have hlocks := B.notSynchronized
  have w_1 := hts (.fieldLink RX6 7 "ScannedDigitsModel" "row" "[I") (List.mem_of_getElem? (i := 1) rfl)
  have hiX6 : ∀ w ∈ wsX60, w ∈ wsX6_glowOf := fun w h => (goodIn_r wsX60 [2, 3, 4, 5, 6, 7, 8, 9, 10, 11, 12, 13, 14] (by decide +kernel) (by decide +kernel) w h).1
  have hl := lv_entry ([.ref h, .int (nI d)]) (n := 4) (Nat.le_of_ble_eq_true rfl)
  rw [lg_entry_eq]
  generalize (lg_sl ([.ref h, .int (nI d)]) ++ List.replicate (4 - (lg_sl ([.ref h, .int (nI d)])).length) Slot.unset).toArray = ls at hl ⊢
  have hl : lv_has ls 4 [(0, .ref h), (1, .int (nI d))] := hl
  refine lv_iconst (v := 0) hx hb dX6_glowOf_0 (by decide) ?_
  refine lv_istore_n (lv' := [(2, .int 0), (0, .ref h), (1, .int (nI d))]) hx hb dX6_glowOf_1 rfl hl (by decide) rfl (fun ls hl => ?_)
  refine lv_iconst (v := 0) hx hb dX6_glowOf_2 (by decide) ?_
  refine lv_istore_n (lv' := [(3, .int 0), (2, .int 0), (0, .ref h), (1, .int (nI d))]) hx hb dX6_glowOf_3 rfl hl (by decide) rfl (fun ls hl => ?_)
  have loop_4 : ∀ (n_4 : Nat) (i : Nat) (x : Int32), i ≤ 8 → 9 ≤ i + n_4 → x = pSum (v.1 (12 + d)) i → ∀ (ls : Array Slot), lv_has ls 4 [(2, .int x), (3, .int (nI i)), (0, .ref h), (1, .int (nI d))] → W p l e (headSpec wsX6_glowOf ({ frames := 0, cells := 0, slots := 0, locals := 0 })).room s m #[.ref h, .int (nI d)] below meth c s.heap [] 0 0 (MQ below (vp_Si (fun r => r = pSum (v.1 (12 + d)) 8)) #[.ref h, .int (nI d)] s 0 0 (noA)) (F0 m 4 ls []) := by
    intro n_4
    induction n_4 with
    | zero =>
      intro i x hi hn hx2
      exact absurd hn (by omega)
    | succ n_4 ih_4 =>
      intro i x hi hn hx2 ls hl
      refine lv_iload_n hx hb dX6_glowOf_4 rfl (lv_at hl 1 rfl) ?_
      refine lv_bipush (v := 8) hx hb dX6_glowOf_5 (by decide) ?_
      refine lv_icmp_ge (tgt := 33) hx hb dX6_glowOf_7 (by decide) (fun c_7 => ?_) (fun c_7 => ?_)
      · have hge : 8 ≤ i := nI_le' (by decide) (by omega) c_7
        refine lv_iload_n hx hb dX6_glowOf_33 rfl (lv_at hl 0 rfl) ?_
        exact W.iret (v := x) hx hb hr (fun t ht hW => ⟨x, rfl, by rw [hx2, show i = 8 by omega], ht⟩) (fun q hq => absurd hq List.not_mem_nil) dX6_glowOf_34
      · have hlt : i < 8 := nI_nle' (by decide) (by omega) c_7
        refine lv_iload_n hx hb dX6_glowOf_10 rfl (lv_at hl 0 rfl) ?_
        refine lv_aload_n hx hb dX6_glowOf_11 rfl (lv_at hl 2 rfl) ?_
        refine va_get (D := D) (ci := 6) (v := .ref r) (C := RX6) (T := TX6) (N := 13) hx hb hts hiX6 hown hK hP 0 rfl rfl 0 (by decide) w_1 (fun _ h9 => h9) rfl dX6_glowOf_12 ?_
        refine lv_bipush (v := 64) hx hb dX6_glowOf_15 (by decide) ?_
        refine lv_bipush (v := 8) hx hb dX6_glowOf_17 (by decide) ?_
        refine lv_iload_n hx hb dX6_glowOf_19 rfl (lv_at hl 3 rfl) ?_
        refine lv_imul hx hb dX6_glowOf_20 ?_
        refine lv_iadd hx hb dX6_glowOf_21 ?_
        refine lv_iload_n hx hb dX6_glowOf_22 rfl (lv_at hl 1 rfl) ?_
        refine lv_iadd hx hb dX6_glowOf_23 ?_
        refine r_iald hx hb hK hP 1 0 rfl rfl (k := 64 + 8 * d + i) (ix_8 64 d i 64 rfl) (by omega) (by decide) dX6_glowOf_24 ?_
        refine lv_as (y := v.1 (12 + d) i) (row_g v hd hlt) ?_
        refine lv_iadd hx hb dX6_glowOf_25 ?_
        refine lv_istore_n (lv' := [(2, .int (x + (v.1 (12 + d) i))), (3, .int (nI i)), (0, .ref h), (1, .int (nI d))]) hx hb dX6_glowOf_26 rfl hl (by decide) rfl (fun ls hl => ?_)
        refine lv_iinc (v := nI (i + 1)) (lv' := [(3, .int (nI (i + 1))), (2, .int (x + (v.1 (12 + d) i))), (0, .ref h), (1, .int (nI d))]) hx hb dX6_glowOf_27 hl (k := 1) rfl ((nI_succ i).symm) (by decide) rfl (fun ls hl => ?_)
        refine lv_goto (tgt := 4) hx hb dX6_glowOf_30 (by decide) ?_
        exact ih_4 (i + 1) _ (by omega) (by omega) (by rw [hx2]; rfl) ls (lv_sub hl [1, 0, 2, 3] rfl)
  exact loop_4 (9) 0 0 (Nat.zero_le _) (by omega) rfl ls (lv_sub hl [1, 0, 2, 3] rfl)
end
section
set_option maxHeartbeats 4000000 in
set_option maxRecDepth 100000 in
theorem k_X6_put (l : Launch) (D : va_G) (ct : Nat → ClassId) (sz : Nat) (h r : Nat) (tl : List Value) (v : SV) (d f : Nat) (x : Int32) (hd : d < 8) (hf : f < 6) : Met l yX6_put wsX6_put ({ frames := 0, cells := 0, slots := 0, locals := 0 }) (muP D ct (mR ct h r tl v) sz [.ref h, .int (nI d), .int (nI f), .int x]) (muV D ct (mR ct h r tl v) (mR ct h r tl (s2 v (4 + d) f x)) sz) 0 0 (va_A (mR ct h r tl v) sz) := by
  refine Met.ofW (cc := cX6_put) (maxL := 4) (ret := none) (by decide) rfl ?_
  intro p e s m args below meth c s₁ B hml hv
  obtain ⟨rfl, hsz, hP, hK, hN, hD0⟩ := hv
  have hx := B.exec
  have hb := B.bytes
  have hr := B.returns
  have hts := atoms_spec (ws := wsX6_put) B.pre
  have hown : s.vm.findClass RX6 = some m.cls := findClass_of_methodNamed B.named
  have hlocks := B.notSynchronized
  subst hsz
  have hD := hD0.self (sz := s.heap.size)
  generalize hAe : va_A (mR ct h r tl v) s.heap.size = A at hD
  have hA : ∀ q : Nat, s.heap.size ≤ q → A q := fun q h => by rw [← hAe]; exact Or.inr h
  have hS : va_S A s.heap s.heap [] := va_S.rf
  have w_1 := hts (.fieldLink RX6 7 "ScannedDigitsModel" "row" "[I") (List.mem_of_getElem? (i := 1) rfl)
  have hiX6 : ∀ w ∈ wsX60, w ∈ wsX6_put := fun w h => (goodIn_r wsX60 [2, 3, 4, 5, 6, 7, 8, 9, 10, 11, 12, 13, 14] (by decide +kernel) (by decide +kernel) w h).1
  have hl := lv_entry ([.ref h, .int (nI d), .int (nI f), .int x]) (n := 4) (Nat.le_of_ble_eq_true rfl)
  rw [lg_entry_eq]
  generalize (lg_sl ([.ref h, .int (nI d), .int (nI f), .int x]) ++ List.replicate (4 - (lg_sl ([.ref h, .int (nI d), .int (nI f), .int x])).length) Slot.unset).toArray = ls at hl ⊢
  have hl : lv_has ls 4 [(0, .ref h), (1, .int (nI d)), (2, .int (nI f)), (3, .int x)] := hl
  refine lv_aload_n hx hb dX6_put_0 rfl (lv_at hl 0 rfl) ?_
  refine va_get (D := D) (ci := 6) (v := .ref r) (C := RX6) (T := TX6) (N := 13) hx hb hts hiX6 hown hK hP 0 rfl rfl 0 (by decide) w_1 (fun _ h9 => h9) rfl dX6_put_1 ?_
  refine lv_bipush (v := 16) hx hb dX6_put_4 (by decide) ?_
  refine lv_bipush (v := 6) hx hb dX6_put_6 (by decide) ?_
  refine lv_iload_n hx hb dX6_put_8 rfl (lv_at hl 1 rfl) ?_
  refine lv_imul hx hb dX6_put_9 ?_
  refine lv_iadd hx hb dX6_put_10 ?_
  refine lv_iload_n hx hb dX6_put_11 rfl (lv_at hl 2 rfl) ?_
  refine lv_iadd hx hb dX6_put_12 ?_
  refine lv_iload_n hx hb dX6_put_13 rfl (lv_at hl 3 rfl) ?_
  refine r_iast hx hb hK hP hD hS 1 0 rfl rfl (k := 16 + 6 * d + f) (ix_6 d f) (by omega) (by decide) dX6_put_14 (fun H locs hP hD hS => ?_)
  have hP : va_P D vwCl (mR ct h r tl (s2 v (4 + d) f x)) H := mR_fn (row_upF v hd hf x) hP
  have hD : va_D A (mR ct h r tl (s2 v (4 + d) f x)) := dw_c hD rfl
  have hP9 : va_P D vwCl (mR ct h r tl (s2 v (4 + d) f x)) H := hP
  have hD9 : va_D A (mR ct h r tl (s2 v (4 + d) f x)) := hD
  subst hAe
  exact W.vret hx hb hr (fun t ht hW => ⟨⟨(), rfl, trivial, muE.of (ct := ct) hP9 hD9 ht⟩, hS.F ht⟩) hS.2.2 dX6_put_15

set_option maxHeartbeats 4000000 in
set_option maxRecDepth 100000 in
theorem k_X6_renew (l : Launch) (D : va_G) (ct : Nat → ClassId) (sz : Nat) (h r : Nat) (tl : List Value) (v : SV) (d : Nat) (hd : d < 8) : Met l yX6_renew wsX6_renew ({ frames := 0, cells := 0, slots := 0, locals := 0 }) (muP D ct (mR ct h r tl v) sz [.ref h, .int (nI d)]) (muV D ct (mR ct h r tl v) (mR ct h r tl (pRen v d)) sz) 0 0 (va_A (mR ct h r tl v) sz) := by
  refine Met.ofW (cc := cX6_renew) (maxL := 3) (ret := none) (by decide) rfl ?_
  intro p e s m args below meth c s₁ B hml hv
  obtain ⟨rfl, hsz, hP, hK, hN, hD0⟩ := hv
  have hx := B.exec
  have hb := B.bytes
  have hr := B.returns
  have hts := atoms_spec (ws := wsX6_renew) B.pre
  have hown : s.vm.findClass RX6 = some m.cls := findClass_of_methodNamed B.named
  have hlocks := B.notSynchronized
  subst hsz
  have hD := hD0.self (sz := s.heap.size)
  generalize hAe : va_A (mR ct h r tl v) s.heap.size = A at hD
  have hA : ∀ q : Nat, s.heap.size ≤ q → A q := fun q h => by rw [← hAe]; exact Or.inr h
  have hS : va_S A s.heap s.heap [] := va_S.rf
  have w_1 := hts (.fieldLink RX6 7 "ScannedDigitsModel" "row" "[I") (List.mem_of_getElem? (i := 1) rfl)
  have hiX6 : ∀ w ∈ wsX60, w ∈ wsX6_renew := fun w h => (goodIn_r wsX60 [2, 3, 4, 5, 6, 7, 8, 9, 10, 11, 12, 13, 14] (by decide +kernel) (by decide +kernel) w h).1
  have hl := lv_entry ([.ref h, .int (nI d)]) (n := 3) (Nat.le_of_ble_eq_true rfl)
  rw [lg_entry_eq]
  generalize (lg_sl ([.ref h, .int (nI d)]) ++ List.replicate (3 - (lg_sl ([.ref h, .int (nI d)])).length) Slot.unset).toArray = ls at hl ⊢
  have hl : lv_has ls 3 [(0, .ref h), (1, .int (nI d))] := hl
  refine lv_aload_n hx hb dX6_renew_0 rfl (lv_at hl 0 rfl) ?_
  refine va_get (D := D) (ci := 6) (v := .ref r) (C := RX6) (T := TX6) (N := 13) hx hb hts hiX6 hown hK hP 0 rfl rfl 0 (by decide) w_1 (fun _ h9 => h9) rfl dX6_renew_1 ?_
  refine lv_sipush (v := 192) hx hb dX6_renew_4 (by decide) ?_
  refine lv_iload_n hx hb dX6_renew_7 rfl (lv_at hl 1 rfl) ?_
  refine lv_iadd hx hb dX6_renew_8 ?_
  refine lv_iconst (v := 0) hx hb dX6_renew_9 (by decide) ?_
  refine r_iast hx hb hK hP hD hS 1 0 rfl rfl (k := 192 + d) (ix_a 192 d 192 rfl) (by omega) (by decide) dX6_renew_10 (fun H locs hP hD hS => ?_)
  have hP : va_P D vwCl (mR ct h r tl (s2 v (4 + d) 6 0)) H := mR_fn (row_upB v hd 0) hP
  have hD : va_D A (mR ct h r tl (s2 v (4 + d) 6 0)) := dw_c hD rfl
  refine lv_iconst (v := 0) hx hb dX6_renew_11 (by decide) ?_
  refine lv_istore_n (lv' := [(2, .int 0), (0, .ref h), (1, .int (nI d))]) hx hb dX6_renew_12 rfl hl (by decide) rfl (fun ls hl => ?_)
  have loop_13 : ∀ (n_13 : Nat) (i : Nat), i ≤ 8 → 9 ≤ i + n_13 → ∀ (H : Heap) (locs : List Loc), va_P D vwCl (mR ct h r tl (pRenK v d i)) H → va_D A (mR ct h r tl (pRenK v d i)) → va_S A s.heap H locs → ∀ (ls : Array Slot), lv_has ls 3 [(2, .int (nI i)), (0, .ref h), (1, .int (nI d))] → W p l e (headSpec wsX6_renew ({ frames := 0, cells := 0, slots := 0, locals := 0 })).room s m #[.ref h, .int (nI d)] below meth c H locs 0 0 (MQ below (muV D ct (mR ct h r tl v) (mR ct h r tl (pRen v d)) s.heap.size) #[.ref h, .int (nI d)] s 0 0 (A)) (F0 m 13 ls []) := by
    intro n_13
    induction n_13 with
    | zero =>
      intro i hi hn
      exact absurd hn (by omega)
    | succ n_13 ih_13 =>
      intro i hi hn H locs hP hD hS ls hl
      refine lv_iload_n hx hb dX6_renew_13 rfl (lv_at hl 0 rfl) ?_
      refine lv_bipush (v := 8) hx hb dX6_renew_14 (by decide) ?_
      refine lv_icmp_ge (tgt := 56) hx hb dX6_renew_16 (by decide) (fun c_16 => ?_) (fun c_16 => ?_)
      · have hge : 8 ≤ i := nI_le' (by decide) (by omega) c_16
        have hP9 : va_P D vwCl (mR ct h r tl (pRen v d)) H := mR_fn (pRenK_8 v d i hd (by omega)) hP
        have hD9 : va_D A (mR ct h r tl (pRen v d)) := dw_c hD rfl
        subst hAe
        exact W.vret hx hb hr (fun t ht hW => ⟨⟨(), rfl, trivial, muE.of (ct := ct) hP9 hD9 ht⟩, hS.F ht⟩) hS.2.2 dX6_renew_56
      · have hlt : i < 8 := nI_nle' (by decide) (by omega) c_16
        refine lv_aload_n hx hb dX6_renew_19 rfl (lv_at hl 1 rfl) ?_
        refine va_get (D := D) (ci := 6) (v := .ref r) (C := RX6) (T := TX6) (N := 13) hx hb hts hiX6 hown hK hP 0 rfl rfl 0 (by decide) w_1 (fun _ h9 => h9) rfl dX6_renew_20 ?_
        refine lv_bipush (v := 64) hx hb dX6_renew_23 (by decide) ?_
        refine lv_bipush (v := 8) hx hb dX6_renew_25 (by decide) ?_
        refine lv_iload_n hx hb dX6_renew_27 rfl (lv_at hl 2 rfl) ?_
        refine lv_imul hx hb dX6_renew_28 ?_
        refine lv_iadd hx hb dX6_renew_29 ?_
        refine lv_iload_n hx hb dX6_renew_30 rfl (lv_at hl 0 rfl) ?_
        refine lv_iadd hx hb dX6_renew_31 ?_
        refine lv_iconst (v := 0) hx hb dX6_renew_32 (by decide) ?_
        refine r_iast hx hb hK hP hD hS 1 0 rfl rfl (k := 64 + 8 * d + i) (ix_8 64 d i 64 rfl) (by omega) (by decide) dX6_renew_33 (fun H locs hP hD hS => ?_)
        have hP : va_P D vwCl (mR ct h r tl (s2 (pRenK v d i) (12 + d) i 0)) H := mR_fn (row_upG (pRenK v d i) hd hlt 0) hP
        have hD : va_D A (mR ct h r tl (s2 (pRenK v d i) (12 + d) i 0)) := dw_c hD rfl
        refine lv_aload_n hx hb dX6_renew_34 rfl (lv_at hl 1 rfl) ?_
        refine va_get (D := D) (ci := 6) (v := .ref r) (C := RX6) (T := TX6) (N := 13) hx hb hts hiX6 hown hK hP 0 rfl rfl 0 (by decide) w_1 (fun _ h9 => h9) rfl dX6_renew_35 ?_
        refine lv_sipush (v := 128) hx hb dX6_renew_38 (by decide) ?_
        refine lv_bipush (v := 8) hx hb dX6_renew_41 (by decide) ?_
        refine lv_iload_n hx hb dX6_renew_43 rfl (lv_at hl 2 rfl) ?_
        refine lv_imul hx hb dX6_renew_44 ?_
        refine lv_iadd hx hb dX6_renew_45 ?_
        refine lv_iload_n hx hb dX6_renew_46 rfl (lv_at hl 0 rfl) ?_
        refine lv_iadd hx hb dX6_renew_47 ?_
        refine lv_iconst (v := 0) hx hb dX6_renew_48 (by decide) ?_
        refine r_iast hx hb hK hP hD hS 1 0 rfl rfl (k := 128 + 8 * d + i) (ix_8 128 d i 128 rfl) (by omega) (by decide) dX6_renew_49 (fun H locs hP hD hS => ?_)
        have hP : va_P D vwCl (mR ct h r tl (s2 (s2 (pRenK v d i) (12 + d) i 0) (20 + d) i 0)) H := mR_fn (row_upU (s2 (pRenK v d i) (12 + d) i 0) hd hlt 0) hP
        have hD : va_D A (mR ct h r tl (s2 (s2 (pRenK v d i) (12 + d) i 0) (20 + d) i 0)) := dw_c hD rfl
        refine lv_iinc (v := nI (i + 1)) (lv' := [(2, .int (nI (i + 1))), (0, .ref h), (1, .int (nI d))]) hx hb dX6_renew_50 hl (k := 0) rfl ((nI_succ i).symm) (by decide) rfl (fun ls hl => ?_)
        refine lv_goto (tgt := 13) hx hb dX6_renew_53 (by decide) ?_
        exact ih_13 (i + 1) (by omega) (by omega) _ _ (mR_fn (pRenK_s v d i) hP) (dw_c hD rfl) hS ls (lv_sub hl [0, 1, 2] rfl)
  exact loop_13 (9) 0 (Nat.zero_le _) (by omega) _ _ (mR_fn (pRenK_0 v d) hP) (dw_c hD rfl) hS ls (lv_sub hl [0, 1, 2] rfl)

set_option maxHeartbeats 4000000 in
set_option maxRecDepth 100000 in
theorem k_X6_begins (l : Launch) (D : va_G) (ct : Nat → ClassId) (sz : Nat) (h r : Nat) (tl : List Value) (v : SV) (d : Nat) (hd : d < 8) : Met l yX6_begins wsX6_begins ({ frames := 1, cells := 0, slots := 0, locals := 23 }) (muP D ct (mR ct h r tl v) sz [.ref h, .int (nI d)]) (muV D ct (mR ct h r tl v) (mR ct h r tl (pNew v d)) sz) 0 0 (va_A (mR ct h r tl v) sz) := by
  refine Met.ofW (cc := cX6_begins) (maxL := 2) (ret := none) (by decide) rfl ?_
  intro p e s m args below meth c s₁ B hml hv
  obtain ⟨rfl, hsz, hP, hK, hN, hD0⟩ := hv
  have hx := B.exec
  have hb := B.bytes
  have hr := B.returns
  have hts := atoms_spec (ws := wsX6_begins) B.pre
  have hown : s.vm.findClass RX6 = some m.cls := findClass_of_methodNamed B.named
  have hlocks := B.notSynchronized
  subst hsz
  have hD := hD0.self (sz := s.heap.size)
  generalize hAe : va_A (mR ct h r tl v) s.heap.size = A at hD
  have hA : ∀ q : Nat, s.heap.size ≤ q → A q := fun q h => by rw [← hAe]; exact Or.inr h
  have hS : va_S A s.heap s.heap [] := va_S.rf
  have hl := lv_entry ([.ref h, .int (nI d)]) (n := 2) (Nat.le_of_ble_eq_true rfl)
  rw [lg_entry_eq]
  generalize (lg_sl ([.ref h, .int (nI d)]) ++ List.replicate (2 - (lg_sl ([.ref h, .int (nI d)])).length) Slot.unset).toArray = ls at hl ⊢
  have hl : lv_has ls 2 [(0, .ref h), (1, .int (nI d))] := hl
  refine lv_aload_n hx hb dX6_begins_0 rfl (lv_at hl 0 rfl) ?_
  refine lv_iload_n hx hb dX6_begins_1 rfl (lv_at hl 1 rfl) ?_
  refine lv_iconst (v := 0) hx hb dX6_begins_2 (by decide) ?_
  refine lv_iconst (v := 0) hx hb dX6_begins_3 (by decide) ?_
  have hFc_4 := w_free (wc := mR ct h r tl v) hD (List.Perm.of_eq (List.append_nil _).symm) hS hA
  refine va_callv (va_runV (As := [.int (nI d), .int 0, .int 0]) (rest := []) ⟨hx, hb, hml, hown, hts⟩ (k_X6_put l D ct _ h r tl v d 0 0 hd (by decide)) (cwV 3 hts gX6_begins_X6_put rfl rfl rfl (by decide +kernel) ⟨Nat.le_of_ble_eq_true rfl, Nat.le_of_ble_eq_true rfl⟩) ⟨muP.blind, va_recv hK hP (ci := 6) (q0 := 0) rfl rfl, muP.at hP hD hK hN⟩ rfl rfl hl.1 rfl (lv_room (Nat.le_of_ble_eq_true rfl)) dX6_begins_4 ⟨Nat.le_of_ble_eq_true rfl, Nat.le_of_ble_eq_true rfl⟩) hS (fun q _ h => hFc_4 q h) hFc_4 (fun u t H1 locs ht hvm hw hB hz1 hk1 hS => ?_)
  obtain ⟨hP, hD⟩ := muE.join (ws' := mR ct h r tl (s2 v (4 + d) 0 0)) hP hD (List.Perm.of_eq (List.append_nil _).symm) (List.Perm.of_eq (List.append_nil _).symm) hk1 hFc_4 ht hB
  generalize H1 = H at hP hS ⊢
  refine lv_aload_n hx hb dX6_begins_7 rfl (lv_at hl 0 rfl) ?_
  refine lv_iload_n hx hb dX6_begins_8 rfl (lv_at hl 1 rfl) ?_
  refine lv_iconst (v := 1) hx hb dX6_begins_9 (by decide) ?_
  refine lv_bipush (v := 10) hx hb dX6_begins_10 (by decide) ?_
  have hFc_12 := w_free (wc := mR ct h r tl (s2 v (4 + d) 0 0)) hD (List.Perm.of_eq (List.append_nil _).symm) hS hA
  refine va_callv (va_runV (As := [.int (nI d), .int 1, .int 10]) (rest := []) ⟨hx, hb, hml, hown, hts⟩ (k_X6_put l D ct _ h r tl (s2 v (4 + d) 0 0) d 1 10 hd (by decide)) (cwV 3 hts gX6_begins_X6_put rfl rfl rfl (by decide +kernel) ⟨Nat.le_of_ble_eq_true rfl, Nat.le_of_ble_eq_true rfl⟩) ⟨muP.blind, va_recv hK hP (ci := 6) (q0 := 0) rfl rfl, muP.at hP hD hK hN⟩ rfl rfl hl.1 rfl (lv_room (Nat.le_of_ble_eq_true rfl)) dX6_begins_12 ⟨Nat.le_of_ble_eq_true rfl, Nat.le_of_ble_eq_true rfl⟩) hS (fun q _ h => hFc_12 q h) hFc_12 (fun u t H1 locs ht hvm hw hB hz1 hk1 hS => ?_)
  obtain ⟨hP, hD⟩ := muE.join (ws' := mR ct h r tl (s2 (s2 v (4 + d) 0 0) (4 + d) 1 10)) hP hD (List.Perm.of_eq (List.append_nil _).symm) (List.Perm.of_eq (List.append_nil _).symm) hk1 hFc_12 ht hB
  generalize H1 = H at hP hS ⊢
  refine lv_aload_n hx hb dX6_begins_15 rfl (lv_at hl 0 rfl) ?_
  refine lv_iload_n hx hb dX6_begins_16 rfl (lv_at hl 1 rfl) ?_
  refine lv_iconst (v := 2) hx hb dX6_begins_17 (by decide) ?_
  refine lv_iconst (v := 1) hx hb dX6_begins_18 (by decide) ?_
  have hFc_19 := w_free (wc := mR ct h r tl (s2 (s2 v (4 + d) 0 0) (4 + d) 1 10)) hD (List.Perm.of_eq (List.append_nil _).symm) hS hA
  refine va_callv (va_runV (As := [.int (nI d), .int 2, .int 1]) (rest := []) ⟨hx, hb, hml, hown, hts⟩ (k_X6_put l D ct _ h r tl (s2 (s2 v (4 + d) 0 0) (4 + d) 1 10) d 2 1 hd (by decide)) (cwV 3 hts gX6_begins_X6_put rfl rfl rfl (by decide +kernel) ⟨Nat.le_of_ble_eq_true rfl, Nat.le_of_ble_eq_true rfl⟩) ⟨muP.blind, va_recv hK hP (ci := 6) (q0 := 0) rfl rfl, muP.at hP hD hK hN⟩ rfl rfl hl.1 rfl (lv_room (Nat.le_of_ble_eq_true rfl)) dX6_begins_19 ⟨Nat.le_of_ble_eq_true rfl, Nat.le_of_ble_eq_true rfl⟩) hS (fun q _ h => hFc_19 q h) hFc_19 (fun u t H1 locs ht hvm hw hB hz1 hk1 hS => ?_)
  obtain ⟨hP, hD⟩ := muE.join (ws' := mR ct h r tl (s2 (s2 (s2 v (4 + d) 0 0) (4 + d) 1 10) (4 + d) 2 1)) hP hD (List.Perm.of_eq (List.append_nil _).symm) (List.Perm.of_eq (List.append_nil _).symm) hk1 hFc_19 ht hB
  generalize H1 = H at hP hS ⊢
  refine lv_aload_n hx hb dX6_begins_22 rfl (lv_at hl 0 rfl) ?_
  refine lv_iload_n hx hb dX6_begins_23 rfl (lv_at hl 1 rfl) ?_
  refine lv_iconst (v := 3) hx hb dX6_begins_24 (by decide) ?_
  refine lv_bipush (v := 15) hx hb dX6_begins_25 (by decide) ?_
  have hFc_27 := w_free (wc := mR ct h r tl (s2 (s2 (s2 v (4 + d) 0 0) (4 + d) 1 10) (4 + d) 2 1)) hD (List.Perm.of_eq (List.append_nil _).symm) hS hA
  refine va_callv (va_runV (As := [.int (nI d), .int 3, .int 15]) (rest := []) ⟨hx, hb, hml, hown, hts⟩ (k_X6_put l D ct _ h r tl (s2 (s2 (s2 v (4 + d) 0 0) (4 + d) 1 10) (4 + d) 2 1) d 3 15 hd (by decide)) (cwV 3 hts gX6_begins_X6_put rfl rfl rfl (by decide +kernel) ⟨Nat.le_of_ble_eq_true rfl, Nat.le_of_ble_eq_true rfl⟩) ⟨muP.blind, va_recv hK hP (ci := 6) (q0 := 0) rfl rfl, muP.at hP hD hK hN⟩ rfl rfl hl.1 rfl (lv_room (Nat.le_of_ble_eq_true rfl)) dX6_begins_27 ⟨Nat.le_of_ble_eq_true rfl, Nat.le_of_ble_eq_true rfl⟩) hS (fun q _ h => hFc_27 q h) hFc_27 (fun u t H1 locs ht hvm hw hB hz1 hk1 hS => ?_)
  obtain ⟨hP, hD⟩ := muE.join (ws' := mR ct h r tl (s2 (s2 (s2 (s2 v (4 + d) 0 0) (4 + d) 1 10) (4 + d) 2 1) (4 + d) 3 15)) hP hD (List.Perm.of_eq (List.append_nil _).symm) (List.Perm.of_eq (List.append_nil _).symm) hk1 hFc_27 ht hB
  generalize H1 = H at hP hS ⊢
  refine lv_aload_n hx hb dX6_begins_30 rfl (lv_at hl 0 rfl) ?_
  refine lv_iload_n hx hb dX6_begins_31 rfl (lv_at hl 1 rfl) ?_
  refine lv_iconst (v := 4) hx hb dX6_begins_32 (by decide) ?_
  refine lv_iconst (v := 0) hx hb dX6_begins_33 (by decide) ?_
  have hFc_34 := w_free (wc := mR ct h r tl (s2 (s2 (s2 (s2 v (4 + d) 0 0) (4 + d) 1 10) (4 + d) 2 1) (4 + d) 3 15)) hD (List.Perm.of_eq (List.append_nil _).symm) hS hA
  refine va_callv (va_runV (As := [.int (nI d), .int 4, .int 0]) (rest := []) ⟨hx, hb, hml, hown, hts⟩ (k_X6_put l D ct _ h r tl (s2 (s2 (s2 (s2 v (4 + d) 0 0) (4 + d) 1 10) (4 + d) 2 1) (4 + d) 3 15) d 4 0 hd (by decide)) (cwV 3 hts gX6_begins_X6_put rfl rfl rfl (by decide +kernel) ⟨Nat.le_of_ble_eq_true rfl, Nat.le_of_ble_eq_true rfl⟩) ⟨muP.blind, va_recv hK hP (ci := 6) (q0 := 0) rfl rfl, muP.at hP hD hK hN⟩ rfl rfl hl.1 rfl (lv_room (Nat.le_of_ble_eq_true rfl)) dX6_begins_34 ⟨Nat.le_of_ble_eq_true rfl, Nat.le_of_ble_eq_true rfl⟩) hS (fun q _ h => hFc_34 q h) hFc_34 (fun u t H1 locs ht hvm hw hB hz1 hk1 hS => ?_)
  obtain ⟨hP, hD⟩ := muE.join (ws' := mR ct h r tl (s2 (s2 (s2 (s2 (s2 v (4 + d) 0 0) (4 + d) 1 10) (4 + d) 2 1) (4 + d) 3 15) (4 + d) 4 0)) hP hD (List.Perm.of_eq (List.append_nil _).symm) (List.Perm.of_eq (List.append_nil _).symm) hk1 hFc_34 ht hB
  generalize H1 = H at hP hS ⊢
  refine lv_aload_n hx hb dX6_begins_37 rfl (lv_at hl 0 rfl) ?_
  refine lv_iload_n hx hb dX6_begins_38 rfl (lv_at hl 1 rfl) ?_
  refine lv_iconst (v := 5) hx hb dX6_begins_39 (by decide) ?_
  refine lv_iconst (v := 0) hx hb dX6_begins_40 (by decide) ?_
  have hFc_41 := w_free (wc := mR ct h r tl (s2 (s2 (s2 (s2 (s2 v (4 + d) 0 0) (4 + d) 1 10) (4 + d) 2 1) (4 + d) 3 15) (4 + d) 4 0)) hD (List.Perm.of_eq (List.append_nil _).symm) hS hA
  refine va_callv (va_runV (As := [.int (nI d), .int 5, .int 0]) (rest := []) ⟨hx, hb, hml, hown, hts⟩ (k_X6_put l D ct _ h r tl (s2 (s2 (s2 (s2 (s2 v (4 + d) 0 0) (4 + d) 1 10) (4 + d) 2 1) (4 + d) 3 15) (4 + d) 4 0) d 5 0 hd (by decide)) (cwV 3 hts gX6_begins_X6_put rfl rfl rfl (by decide +kernel) ⟨Nat.le_of_ble_eq_true rfl, Nat.le_of_ble_eq_true rfl⟩) ⟨muP.blind, va_recv hK hP (ci := 6) (q0 := 0) rfl rfl, muP.at hP hD hK hN⟩ rfl rfl hl.1 rfl (lv_room (Nat.le_of_ble_eq_true rfl)) dX6_begins_41 ⟨Nat.le_of_ble_eq_true rfl, Nat.le_of_ble_eq_true rfl⟩) hS (fun q _ h => hFc_41 q h) hFc_41 (fun u t H1 locs ht hvm hw hB hz1 hk1 hS => ?_)
  obtain ⟨hP, hD⟩ := muE.join (ws' := mR ct h r tl (s2 (s2 (s2 (s2 (s2 (s2 v (4 + d) 0 0) (4 + d) 1 10) (4 + d) 2 1) (4 + d) 3 15) (4 + d) 4 0) (4 + d) 5 0)) hP hD (List.Perm.of_eq (List.append_nil _).symm) (List.Perm.of_eq (List.append_nil _).symm) hk1 hFc_41 ht hB
  generalize H1 = H at hP hS ⊢
  refine lv_aload_n hx hb dX6_begins_44 rfl (lv_at hl 0 rfl) ?_
  refine lv_iload_n hx hb dX6_begins_45 rfl (lv_at hl 1 rfl) ?_
  have hFc_46 := w_free (wc := mR ct h r tl (s2 (s2 (s2 (s2 (s2 (s2 v (4 + d) 0 0) (4 + d) 1 10) (4 + d) 2 1) (4 + d) 3 15) (4 + d) 4 0) (4 + d) 5 0)) hD (List.Perm.of_eq (List.append_nil _).symm) hS hA
  refine va_callv (va_runV (As := [.int (nI d)]) (rest := []) ⟨hx, hb, hml, hown, hts⟩ (k_X6_renew l D ct _ h r tl (s2 (s2 (s2 (s2 (s2 (s2 v (4 + d) 0 0) (4 + d) 1 10) (4 + d) 2 1) (4 + d) 3 15) (4 + d) 4 0) (4 + d) 5 0) d hd) (cwV 1 hts gX6_begins_X6_renew rfl rfl rfl (by decide +kernel) ⟨Nat.le_of_ble_eq_true rfl, Nat.le_of_ble_eq_true rfl⟩) ⟨muP.blind, va_recv hK hP (ci := 6) (q0 := 0) rfl rfl, muP.at hP hD hK hN⟩ rfl rfl hl.1 rfl (lv_room (Nat.le_of_ble_eq_true rfl)) dX6_begins_46 ⟨Nat.le_of_ble_eq_true rfl, Nat.le_of_ble_eq_true rfl⟩) hS (fun q _ h => hFc_46 q h) hFc_46 (fun u t H1 locs ht hvm hw hB hz1 hk1 hS => ?_)
  obtain ⟨hP, hD⟩ := muE.join (ws' := mR ct h r tl (pRen (s2 (s2 (s2 (s2 (s2 (s2 v (4 + d) 0 0) (4 + d) 1 10) (4 + d) 2 1) (4 + d) 3 15) (4 + d) 4 0) (4 + d) 5 0) d)) hP hD (List.Perm.of_eq (List.append_nil _).symm) (List.Perm.of_eq (List.append_nil _).symm) hk1 hFc_46 ht hB
  generalize H1 = H at hP hS ⊢
  have hP9 : va_P D vwCl (mR ct h r tl (pNew v d)) H := mR_fn (pNew_of v d hd) hP
  have hD9 : va_D A (mR ct h r tl (pNew v d)) := dw_c hD rfl
  subst hAe
  exact W.vret hx hb hr (fun t ht hW => ⟨⟨(), rfl, trivial, muE.of (ct := ct) hP9 hD9 ht⟩, hS.F ht⟩) hS.2.2 dX6_begins_49

set_option maxHeartbeats 4000000 in
set_option maxRecDepth 100000 in
theorem k_X6_endFrame (l : Launch) (D : va_G) (ct : Nat → ClassId) (sz : Nat) (h r : Nat) (tl : List Value) (v : SV) : Met l yX6_endFrame wsX6_endFrame ({ frames := 0, cells := 0, slots := 0, locals := 0 }) (muP D ct (mR ct h r tl v) sz [.ref h]) (muV D ct (mR ct h r tl v) (mR ct h r tl (pEnd v)) sz) 0 0 (va_A (mR ct h r tl v) sz) := by
  refine Met.ofW (cc := cX6_endFrame) (maxL := 1) (ret := none) (by decide) rfl ?_
  intro p e s m args below meth c s₁ B hml hv
  obtain ⟨rfl, hsz, hP, hK, hN, hD0⟩ := hv
  have hx := B.exec
  have hb := B.bytes
  have hr := B.returns
  have hts := atoms_spec (ws := wsX6_endFrame) B.pre
  have hown : s.vm.findClass RX6 = some m.cls := findClass_of_methodNamed B.named
  have hlocks := B.notSynchronized
  subst hsz
  have hD := hD0.self (sz := s.heap.size)
  generalize hAe : va_A (mR ct h r tl v) s.heap.size = A at hD
  have hA : ∀ q : Nat, s.heap.size ≤ q → A q := fun q h => by rw [← hAe]; exact Or.inr h
  have hS : va_S A s.heap s.heap [] := va_S.rf
  have w_1 := hts (.fieldLink RX6 7 "ScannedDigitsModel" "row" "[I") (List.mem_of_getElem? (i := 1) rfl)
  have hiX6 : ∀ w ∈ wsX60, w ∈ wsX6_endFrame := fun w h => (goodIn_r wsX60 [2, 3, 4, 5, 6, 7, 8, 9, 10, 11, 12, 13, 14] (by decide +kernel) (by decide +kernel) w h).1
  have hl := lv_entry ([.ref h]) (n := 1) (Nat.le_of_ble_eq_true rfl)
  rw [lg_entry_eq]
  generalize (lg_sl ([.ref h]) ++ List.replicate (1 - (lg_sl ([.ref h])).length) Slot.unset).toArray = ls at hl ⊢
  have hl : lv_has ls 1 [(0, .ref h)] := hl
  refine lv_aload_n hx hb dX6_endFrame_0 rfl (lv_at hl 0 rfl) ?_
  refine va_get (D := D) (ci := 6) (v := .ref r) (C := RX6) (T := TX6) (N := 13) hx hb hts hiX6 hown hK hP 0 rfl rfl 0 (by decide) w_1 (fun _ h9 => h9) rfl dX6_endFrame_1 ?_
  refine lv_iconst (v := 2) hx hb dX6_endFrame_4 (by decide) ?_
  refine lv_dup2_11 hx hb dX6_endFrame_5 rfl rfl ?_
  refine r_iald hx hb hK hP 1 0 rfl rfl (k := 2) (rfl) (by decide) (by decide) dX6_endFrame_6 ?_
  refine lv_as (y := v.1 0 2) (row_0 v (by decide)) ?_
  refine lv_iconst (v := 1) hx hb dX6_endFrame_7 (by decide) ?_
  refine lv_iadd hx hb dX6_endFrame_8 ?_
  refine r_iast hx hb hK hP hD hS 1 0 rfl rfl (k := 2) (rfl) (by decide) (by decide) dX6_endFrame_9 (fun H locs hP hD hS => ?_)
  have hP : va_P D vwCl (mR ct h r tl (sC v 0 (upd (v.1 0) 2 (v.1 0 2 + 1)))) H := mR_fn (row_up0 v (by decide) _) hP
  have hD : va_D A (mR ct h r tl (sC v 0 (upd (v.1 0) 2 (v.1 0 2 + 1)))) := dw_c hD rfl
  refine lv_aload_n hx hb dX6_endFrame_10 rfl (lv_at hl 0 rfl) ?_
  refine va_get (D := D) (ci := 6) (v := .ref r) (C := RX6) (T := TX6) (N := 13) hx hb hts hiX6 hown hK hP 0 rfl rfl 0 (by decide) w_1 (fun _ h9 => h9) rfl dX6_endFrame_11 ?_
  refine lv_iconst (v := 3) hx hb dX6_endFrame_14 (by decide) ?_
  refine lv_iconst (v := 0) hx hb dX6_endFrame_15 (by decide) ?_
  refine r_iast hx hb hK hP hD hS 1 0 rfl rfl (k := 3) (rfl) (by decide) (by decide) dX6_endFrame_16 (fun H locs hP hD hS => ?_)
  have hP : va_P D vwCl (mR ct h r tl (sC v 0 (upd (upd (v.1 0) 2 (v.1 0 2 + 1)) 3 0))) H := mR_fn (row_up0C v (upd (v.1 0) 2 (v.1 0 2 + 1)) (by decide) _) hP
  have hD : va_D A (mR ct h r tl (sC v 0 (upd (upd (v.1 0) 2 (v.1 0 2 + 1)) 3 0))) := dw_c hD rfl
  refine lv_aload_n hx hb dX6_endFrame_17 rfl (lv_at hl 0 rfl) ?_
  refine va_get (D := D) (ci := 6) (v := .ref r) (C := RX6) (T := TX6) (N := 13) hx hb hts hiX6 hown hK hP 0 rfl rfl 0 (by decide) w_1 (fun _ h9 => h9) rfl dX6_endFrame_18 ?_
  refine lv_iconst (v := 4) hx hb dX6_endFrame_21 (by decide) ?_
  refine lv_dup2_11 hx hb dX6_endFrame_22 rfl rfl ?_
  refine r_iald hx hb hK hP 1 0 rfl rfl (k := 4) (rfl) (by decide) (by decide) dX6_endFrame_23 ?_
  refine lv_as (y := v.1 0 4) (row_0 (sC v 0 (upd (upd (v.1 0) 2 (v.1 0 2 + 1)) 3 0)) (by decide)) ?_
  refine lv_aload_n hx hb dX6_endFrame_24 rfl (lv_at hl 0 rfl) ?_
  refine va_get (D := D) (ci := 6) (v := .ref r) (C := RX6) (T := TX6) (N := 13) hx hb hts hiX6 hown hK hP 0 rfl rfl 0 (by decide) w_1 (fun _ h9 => h9) rfl dX6_endFrame_25 ?_
  refine lv_iconst (v := 4) hx hb dX6_endFrame_28 (by decide) ?_
  refine r_iald hx hb hK hP 1 0 rfl rfl (k := 4) (rfl) (by decide) (by decide) dX6_endFrame_29 ?_
  refine lv_as (y := v.1 0 4) (row_0 (sC v 0 (upd (upd (v.1 0) 2 (v.1 0 2 + 1)) 3 0)) (by decide)) ?_
  refine lv_if_le (tgt := 37) hx hb dX6_endFrame_30 (by decide) (fun c_30 => ?_) (fun c_30 => ?_)
  · refine lv_iconst (v := 0) hx hb dX6_endFrame_37 (by decide) ?_
    refine lv_isub hx hb dX6_endFrame_38 ?_
    refine r_iast hx hb hK hP hD hS 1 0 rfl rfl (k := 4) (rfl) (by decide) (by decide) dX6_endFrame_39 (fun H locs hP hD hS => ?_)
    have hP : va_P D vwCl (mR ct h r tl (sC v 0 (upd (upd (upd (v.1 0) 2 (v.1 0 2 + 1)) 3 0) 4 (v.1 0 4 - 0)))) H := mR_fn (row_up0C v (upd (upd (v.1 0) 2 (v.1 0 2 + 1)) 3 0) (by decide) _) hP
    have hD : va_D A (mR ct h r tl (sC v 0 (upd (upd (upd (v.1 0) 2 (v.1 0 2 + 1)) 3 0) 4 (v.1 0 4 - 0)))) := dw_c hD rfl
    have hP9 : va_P D vwCl (mR ct h r tl (pEnd v)) H := by unfold pEnd pEndF; rw [if_neg (Int32.not_lt.mpr c_30)]; exact hP
    have hD9 : va_D A (mR ct h r tl (pEnd v)) := dw_c hD rfl
    subst hAe
    exact W.vret hx hb hr (fun t ht hW => ⟨⟨(), rfl, trivial, muE.of (ct := ct) hP9 hD9 ht⟩, hS.F ht⟩) hS.2.2 dX6_endFrame_40
  · refine lv_iconst (v := 1) hx hb dX6_endFrame_33 (by decide) ?_
    refine lv_goto (tgt := 38) hx hb dX6_endFrame_34 (by decide) ?_
    refine lv_isub hx hb dX6_endFrame_38 ?_
    refine r_iast hx hb hK hP hD hS 1 0 rfl rfl (k := 4) (rfl) (by decide) (by decide) dX6_endFrame_39 (fun H locs hP hD hS => ?_)
    have hP : va_P D vwCl (mR ct h r tl (sC v 0 (upd (upd (upd (v.1 0) 2 (v.1 0 2 + 1)) 3 0) 4 (v.1 0 4 - 1)))) H := mR_fn (row_up0C v (upd (upd (v.1 0) 2 (v.1 0 2 + 1)) 3 0) (by decide) _) hP
    have hD : va_D A (mR ct h r tl (sC v 0 (upd (upd (upd (v.1 0) 2 (v.1 0 2 + 1)) 3 0) 4 (v.1 0 4 - 1)))) := dw_c hD rfl
    have hP9 : va_P D vwCl (mR ct h r tl (pEnd v)) H := by unfold pEnd pEndF; rw [if_pos (i_not_le c_30)]; exact hP
    have hD9 : va_D A (mR ct h r tl (pEnd v)) := dw_c hD rfl
    subst hAe
    exact W.vret hx hb hr (fun t ht hW => ⟨⟨(), rfl, trivial, muE.of (ct := ct) hP9 hD9 ht⟩, hS.F ht⟩) hS.2.2 dX6_endFrame_40

set_option maxHeartbeats 4000000 in
set_option maxRecDepth 100000 in
theorem k_X6_light (l : Launch) (D : va_G) (ct : Nat → ClassId) (sz : Nat) (h r : Nat) (tl : List Value) (v : SV) (d k : Nat) (hd : d < 8) (hk : k < 8) (b : Bool) (hz : ¬ v.1 3 0 = 0) : Met l yX6_light wsX6_light ({ frames := 1, cells := 0, slots := 0, locals := 22 }) (muP D ct (mR ct h r tl v) sz [.ref h, .int (nI d), .int (nI k), .int (if b = true then 1 else 0)]) (muV D ct (mR ct h r tl v) (mR ct h r tl (sTri v d (dStep b (v.1 3 0) (v.1 3 2) k (dTri v d)))) sz) 0 0 (va_A (mR ct h r tl v) sz) := by
  refine Met.ofW (cc := cX6_light) (maxL := 5) (ret := none) (by decide) rfl ?_
  intro p e s m args below meth c s₁ B hml hv
  obtain ⟨rfl, hsz, hP, hK, hN, hD0⟩ := hv
  have hx := B.exec
  have hb := B.bytes
  have hr := B.returns
  have hts := atoms_spec (ws := wsX6_light) B.pre
  have hown : s.vm.findClass RX6 = some m.cls := findClass_of_methodNamed B.named
  have hlocks := B.notSynchronized
  subst hsz
  have hD := hD0.self (sz := s.heap.size)
  generalize hAe : va_A (mR ct h r tl v) s.heap.size = A at hD
  have hA : ∀ q : Nat, s.heap.size ≤ q → A q := fun q h => by rw [← hAe]; exact Or.inr h
  have hS : va_S A s.heap s.heap [] := va_S.rf
  have w_1 := hts (.fieldLink RX6 7 "ScannedDigitsModel" "row" "[I") (List.mem_of_getElem? (i := 1) rfl)
  have hiX6 : ∀ w ∈ wsX60, w ∈ wsX6_light := fun w h => (goodIn_r wsX60 [10, 11, 12, 13, 14, 15, 16, 17, 18, 19, 20, 21, 22] (by decide +kernel) (by decide +kernel) w h).1
  have hl := lv_entry ([.ref h, .int (nI d), .int (nI k), .int (if b = true then 1 else 0)]) (n := 5) (Nat.le_of_ble_eq_true rfl)
  rw [lg_entry_eq]
  generalize (lg_sl ([.ref h, .int (nI d), .int (nI k), .int (if b = true then 1 else 0)]) ++ List.replicate (5 - (lg_sl ([.ref h, .int (nI d), .int (nI k), .int (if b = true then 1 else 0)])).length) Slot.unset).toArray = ls at hl ⊢
  have hl : lv_has ls 5 [(0, .ref h), (1, .int (nI d)), (2, .int (nI k)), (3, .int (if b = true then 1 else 0))] := hl
  refine lv_bipush (v := 8) hx hb dX6_light_0 (by decide) ?_
  refine lv_iload_n hx hb dX6_light_2 rfl (lv_at hl 1 rfl) ?_
  refine lv_imul hx hb dX6_light_3 ?_
  refine lv_iload_n hx hb dX6_light_4 rfl (lv_at hl 2 rfl) ?_
  refine lv_iadd hx hb dX6_light_5 ?_
  refine lv_as (y := nI (8 * d + k)) (ix8 d k) ?_
  refine lv_istore (lv' := [(4, .int (nI (8 * d + k))), (0, .ref h), (1, .int (nI d)), (2, .int (nI k)), (3, .int (if b = true then 1 else 0))]) hx hb dX6_light_6 hl (by decide) rfl (fun ls hl => ?_)
  refine lv_aload_n hx hb dX6_light_8 rfl (lv_at hl 1 rfl) ?_
  refine va_get (D := D) (ci := 6) (v := .ref r) (C := RX6) (T := TX6) (N := 13) hx hb hts hiX6 hown hK hP 0 rfl rfl 0 (by decide) w_1 (fun _ h9 => h9) rfl dX6_light_9 ?_
  refine lv_bipush (v := 64) hx hb dX6_light_12 (by decide) ?_
  refine lv_iload hx hb dX6_light_14 (lv_at hl 0 rfl) ?_
  refine lv_iadd hx hb dX6_light_16 ?_
  refine lv_as (y := nI (64 + 8 * d + k)) (ix_c 64 (8 * d + k) 64 rfl _ (by omega)) ?_
  refine lv_iload_n hx hb dX6_light_17 rfl (lv_at hl 4 rfl) ?_
  refine lv_if_eq (tgt := 37) hx hb dX6_light_18 (by decide) (fun c_18 => ?_) (fun c_18 => ?_)
  · have hb0 : b = false := by cases b with
      | false => rfl
      | true => exact absurd c_18 (by decide)
    refine lv_aload_n hx hb dX6_light_37 rfl (lv_at hl 1 rfl) ?_
    refine lv_aload_n hx hb dX6_light_38 rfl (lv_at hl 1 rfl) ?_
    refine va_get (D := D) (ci := 6) (v := .ref r) (C := RX6) (T := TX6) (N := 13) hx hb hts hiX6 hown hK hP 0 rfl rfl 0 (by decide) w_1 (fun _ h9 => h9) rfl dX6_light_39 ?_
    refine lv_bipush (v := 64) hx hb dX6_light_42 (by decide) ?_
    refine lv_iload hx hb dX6_light_44 (lv_at hl 0 rfl) ?_
    refine lv_iadd hx hb dX6_light_46 ?_
    refine lv_as (y := nI (64 + 8 * d + k)) (ix_c 64 (8 * d + k) 64 rfl _ (by omega)) ?_
    refine r_iald hx hb hK hP 1 0 rfl rfl (k := (64 + 8 * d + k)) (rfl) (by omega) (by decide) dX6_light_47 ?_
    refine lv_as (y := v.1 (12 + d) k) (row_g v hd hk) ?_
    refine vp_callSi (va_runV (As := [.int (v.1 (12 + d) k)]) (rest := [.int (nI (64 + 8 * d + k)), .ref r]) ⟨hx, hb, hml, hown, hts⟩ (k_X6_darker l D ct h r tl v (v.1 (12 + d) k) hz) (cwV 1 hts gX6_light_X6_darker rfl rfl rfl (by decide +kernel) ⟨Nat.le_of_ble_eq_true rfl, Nat.le_of_ble_eq_true rfl⟩) ⟨roP.blind, va_recv hK hP (ci := 6) (q0 := 0) rfl rfl, roP.at hP hK hN⟩ rfl rfl hl.1 rfl (lv_room (Nat.le_of_ble_eq_true rfl)) dX6_light_48 ⟨Nat.le_of_ble_eq_true rfl, Nat.le_of_ble_eq_true rfl⟩).run (fun r_48 h_48 => ?_)
    obtain rfl : r_48 = pDar (v.1 (12 + d) k) (v.1 3 0) := h_48
    refine r_iast hx hb hK hP hD hS 1 0 rfl rfl (k := (64 + 8 * d + k)) (rfl) (by omega) (by decide) dX6_light_51 (fun H locs hP hD hS => ?_)
    have hP : va_P D vwCl (mR ct h r tl (s2 v (12 + d) k (pDar (v.1 (12 + d) k) (v.1 3 0)))) H := mR_fn (row_upG v hd hk _) hP
    have hD : va_D A (mR ct h r tl (s2 v (12 + d) k (pDar (v.1 (12 + d) k) (v.1 3 0)))) := dw_c hD rfl
    refine lv_iload_n hx hb dX6_light_52 rfl (lv_at hl 4 rfl) ?_
    refine lv_if_eq (tgt := 108) hx hb dX6_light_53 (by decide) (fun c_53 => ?_) (fun c_53 => ?_)
    · have hP9 : va_P D vwCl (mR ct h r tl (sTri v d (dStep b (v.1 3 0) (v.1 3 2) k (dTri v d)))) H := mR_fn (light_0 v b hb0) hP
      have hD9 : va_D A (mR ct h r tl (sTri v d (dStep b (v.1 3 0) (v.1 3 2) k (dTri v d)))) := dw_c hD rfl
      subst hAe
      exact W.vret hx hb hr (fun t ht hW => ⟨⟨(), rfl, trivial, muE.of (ct := ct) hP9 hD9 ht⟩, hS.F ht⟩) hS.2.2 dX6_light_108
    · exact absurd (by rw [hb0]; rfl) c_53
  · have hb1 : b = true := by cases b with
      | false => exact absurd rfl c_18
      | true => rfl
    refine lv_aload_n hx hb dX6_light_21 rfl (lv_at hl 1 rfl) ?_
    refine va_get (D := D) (ci := 6) (v := .ref r) (C := RX6) (T := TX6) (N := 13) hx hb hts hiX6 hown hK hP 0 rfl rfl 0 (by decide) w_1 (fun _ h9 => h9) rfl dX6_light_22 ?_
    refine lv_bipush (v := 64) hx hb dX6_light_25 (by decide) ?_
    refine lv_iload hx hb dX6_light_27 (lv_at hl 0 rfl) ?_
    refine lv_iadd hx hb dX6_light_29 ?_
    refine lv_as (y := nI (64 + 8 * d + k)) (ix_c 64 (8 * d + k) 64 rfl _ (by omega)) ?_
    refine r_iald hx hb hK hP 1 0 rfl rfl (k := (64 + 8 * d + k)) (rfl) (by omega) (by decide) dX6_light_30 ?_
    refine lv_as (y := v.1 (12 + d) k) (row_g v hd hk) ?_
    refine vp_callSi (va_runS (As := [.int (v.1 (12 + d) k)]) (rest := [.int (nI (64 + 8 * d + k)), .ref r]) ⟨hx, hb, hml, hown, hts⟩ (k_X6_brighter l D ct (v.1 (12 + d) k)) (va_cwS 1 hts gX6_light_X6_brighter rfl rfl rfl (by decide +kernel) ⟨Nat.le_of_ble_eq_true rfl, Nat.le_of_ble_eq_true rfl⟩) ⟨roP.blind, roP.at pw_nil hK hN⟩ rfl rfl hl.1 rfl (lv_room (Nat.le_of_ble_eq_true rfl)) dX6_light_31 ⟨Nat.le_of_ble_eq_true rfl, Nat.le_of_ble_eq_true rfl⟩).run (fun r_31 h_31 => ?_)
    obtain rfl : r_31 = pBri (v.1 (12 + d) k) := h_31
    refine lv_goto (tgt := 51) hx hb dX6_light_34 (by decide) ?_
    refine r_iast hx hb hK hP hD hS 1 0 rfl rfl (k := (64 + 8 * d + k)) (rfl) (by omega) (by decide) dX6_light_51 (fun H locs hP hD hS => ?_)
    have hP : va_P D vwCl (mR ct h r tl (s2 v (12 + d) k (pBri (v.1 (12 + d) k)))) H := mR_fn (row_upG v hd hk _) hP
    have hD : va_D A (mR ct h r tl (s2 v (12 + d) k (pBri (v.1 (12 + d) k)))) := dw_c hD rfl
    refine lv_iload_n hx hb dX6_light_52 rfl (lv_at hl 4 rfl) ?_
    refine lv_if_eq (tgt := 108) hx hb dX6_light_53 (by decide) (fun c_53 => ?_) (fun c_53 => ?_)
    · exact absurd c_53 (by rw [hb1]; decide)
    · refine lv_aload_n hx hb dX6_light_56 rfl (lv_at hl 1 rfl) ?_
      refine va_get (D := D) (ci := 6) (v := .ref r) (C := RX6) (T := TX6) (N := 13) hx hb hts hiX6 hown hK hP 0 rfl rfl 0 (by decide) w_1 (fun _ h9 => h9) rfl dX6_light_57 ?_
      refine lv_sipush (v := 128) hx hb dX6_light_60 (by decide) ?_
      refine lv_iload hx hb dX6_light_63 (lv_at hl 0 rfl) ?_
      refine lv_iadd hx hb dX6_light_65 ?_
      refine lv_as (y := nI (128 + 8 * d + k)) (ix_c 128 (8 * d + k) 128 rfl _ (by omega)) ?_
      refine lv_dup2_11 hx hb dX6_light_66 rfl rfl ?_
      refine r_iald hx hb hK hP 1 0 rfl rfl (k := (128 + 8 * d + k)) (rfl) (by omega) (by decide) dX6_light_67 ?_
      refine lv_as (y := v.1 (20 + d) k) ((row_u _ hd hk).trans (by rw [s2_at, if_neg (by omega)])) ?_
      refine lv_iconst (v := 1) hx hb dX6_light_68 (by decide) ?_
      refine lv_iadd hx hb dX6_light_69 ?_
      refine r_iast hx hb hK hP hD hS 1 0 rfl rfl (k := (128 + 8 * d + k)) (rfl) (by omega) (by decide) dX6_light_70 (fun H locs hP hD hS => ?_)
      have hP : va_P D vwCl (mR ct h r tl (s2 (s2 v (12 + d) k (pBri (v.1 (12 + d) k))) (20 + d) k (v.1 (20 + d) k + 1))) H := mR_fn (row_upU _ hd hk _) hP
      have hD : va_D A (mR ct h r tl (s2 (s2 v (12 + d) k (pBri (v.1 (12 + d) k))) (20 + d) k (v.1 (20 + d) k + 1))) := dw_c hD rfl
      refine lv_aload_n hx hb dX6_light_71 rfl (lv_at hl 1 rfl) ?_
      refine va_get (D := D) (ci := 6) (v := .ref r) (C := RX6) (T := TX6) (N := 13) hx hb hts hiX6 hown hK hP 0 rfl rfl 0 (by decide) w_1 (fun _ h9 => h9) rfl dX6_light_72 ?_
      refine lv_sipush (v := 128) hx hb dX6_light_75 (by decide) ?_
      refine lv_iload hx hb dX6_light_78 (lv_at hl 0 rfl) ?_
      refine lv_iadd hx hb dX6_light_80 ?_
      refine lv_as (y := nI (128 + 8 * d + k)) (ix_c 128 (8 * d + k) 128 rfl _ (by omega)) ?_
      refine r_iald hx hb hK hP 1 0 rfl rfl (k := (128 + 8 * d + k)) (rfl) (by omega) (by decide) dX6_light_81 ?_
      refine lv_as (y := v.1 (20 + d) k + 1) ((row_u _ hd hk).trans (by rw [s2_at, if_pos ⟨rfl, rfl⟩])) ?_
      refine lv_aload_n hx hb dX6_light_82 rfl (lv_at hl 1 rfl) ?_
      refine va_get (D := D) (ci := 6) (v := .ref r) (C := RX6) (T := TX6) (N := 13) hx hb hts hiX6 hown hK hP 0 rfl rfl 0 (by decide) w_1 (fun _ h9 => h9) rfl dX6_light_83 ?_
      refine lv_bipush (v := 8) hx hb dX6_light_86 (by decide) ?_
      refine r_iald hx hb hK hP 1 0 rfl rfl (k := 8) (rfl) (by decide) (by decide) dX6_light_88 ?_
      refine lv_as (y := v.1 3 2) ((row_3 _ (j := 2) (by decide)).trans (by rw [s2_at, if_neg (by omega), s2_at, if_neg (by omega)])) ?_
      refine lv_icmp_lt (tgt := 108) hx hb dX6_light_89 (by decide) (fun c_89 => ?_) (fun c_89 => ?_)
      · have hP9 : va_P D vwCl (mR ct h r tl (sTri v d (dStep b (v.1 3 0) (v.1 3 2) k (dTri v d)))) H := mR_fn (light_1 v b hb1 (fun q => Int32.not_lt.mpr q c_89)) hP
        have hD9 : va_D A (mR ct h r tl (sTri v d (dStep b (v.1 3 0) (v.1 3 2) k (dTri v d)))) := dw_c hD rfl
        subst hAe
        exact W.vret hx hb hr (fun t ht hW => ⟨⟨(), rfl, trivial, muE.of (ct := ct) hP9 hD9 ht⟩, hS.F ht⟩) hS.2.2 dX6_light_108
      · refine lv_aload_n hx hb dX6_light_92 rfl (lv_at hl 1 rfl) ?_
        refine va_get (D := D) (ci := 6) (v := .ref r) (C := RX6) (T := TX6) (N := 13) hx hb hts hiX6 hown hK hP 0 rfl rfl 0 (by decide) w_1 (fun _ h9 => h9) rfl dX6_light_93 ?_
        refine lv_sipush (v := 192) hx hb dX6_light_96 (by decide) ?_
        refine lv_iload_n hx hb dX6_light_99 rfl (lv_at hl 2 rfl) ?_
        refine lv_iadd hx hb dX6_light_100 ?_
        refine lv_as (y := nI (192 + d)) (ix_a 192 d 192 rfl) ?_
        refine lv_dup2_11 hx hb dX6_light_101 rfl rfl ?_
        refine r_iald hx hb hK hP 1 0 rfl rfl (k := (192 + d)) (rfl) (by omega) (by decide) dX6_light_102 ?_
        refine lv_as (y := v.1 (4 + d) 6) ((row_b _ hd).trans (by rw [s2_at, if_neg (by omega), s2_at, if_neg (by omega)])) ?_
        refine lv_iconst (v := 1) hx hb dX6_light_103 (by decide) ?_
        refine lv_iload_n hx hb dX6_light_104 rfl (lv_at hl 3 rfl) ?_
        refine lv_ishl hx hb dX6_light_105 ?_
        refine lv_ior hx hb dX6_light_106 ?_
        refine r_iast hx hb hK hP hD hS 1 0 rfl rfl (k := (192 + d)) (rfl) (by omega) (by decide) dX6_light_107 (fun H locs hP hD hS => ?_)
        have hP : va_P D vwCl (mR ct h r tl (s2 (s2 (s2 v (12 + d) k (pBri (v.1 (12 + d) k))) (20 + d) k (v.1 (20 + d) k + 1)) (4 + d) 6 (v.1 (4 + d) 6 ||| (1 : Int32) <<< (nI k &&& 31)))) H := mR_fn (row_upB _ hd _) hP
        have hD : va_D A (mR ct h r tl (s2 (s2 (s2 v (12 + d) k (pBri (v.1 (12 + d) k))) (20 + d) k (v.1 (20 + d) k + 1)) (4 + d) 6 (v.1 (4 + d) 6 ||| (1 : Int32) <<< (nI k &&& 31)))) := dw_c hD rfl
        have hP9 : va_P D vwCl (mR ct h r tl (sTri v d (dStep b (v.1 3 0) (v.1 3 2) k (dTri v d)))) H := mR_fn (light_2 v b hb1 (i_not_lt c_89)) hP
        have hD9 : va_D A (mR ct h r tl (sTri v d (dStep b (v.1 3 0) (v.1 3 2) k (dTri v d)))) := dw_c hD rfl
        subst hAe
        exact W.vret hx hb hr (fun t ht hW => ⟨⟨(), rfl, trivial, muE.of (ct := ct) hP9 hD9 ht⟩, hS.F ht⟩) hS.2.2 dX6_light_108
end
section
theorem zz_end : True := trivial
end
