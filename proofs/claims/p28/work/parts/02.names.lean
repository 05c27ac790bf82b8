/-! ===== BEGIN words of one list among another's, by their places ===== -/
theorem goodIn_r {big : List Cond} (ws : List Cond) (ps : List Nat) (hp : ws = ps.filterMap (fun i => big[i]?)) (h : ws.all goodWord = true) : GoodIn big ws := by
  intro w hw
  have h1 := List.all_eq_true.mp h w hw
  rw [hp] at hw
  obtain ⟨i, -, hi⟩ := List.mem_filterMap.mp hw
  have hm : w ∈ big := by first | exact List.mem_of_getElem? hi | exact List.getElem?_mem hi
  exact ⟨hm, good_of_word h1⟩
theorem goodIn_app {big a b : List Cond} (ha : GoodIn big a) (hb : GoodIn big b) : GoodIn big (a ++ b) := fun w h => (List.mem_append.mp h).elim (ha w) (hb w)
theorem goodIn_ca {big a b : List Cond} {c : Cond} (ha : GoodIn big (c :: a)) (hb : GoodIn big b) : GoodIn big (c :: (a ++ b)) := fun w h => (List.mem_cons.mp h).elim (fun e => ha w (List.mem_cons.mpr (Or.inl e))) (fun h => (List.mem_append.mp h).elim (fun h => ha w (List.mem_cons.mpr (Or.inr h))) (hb w))
theorem goodIn_sub {big ws : List Cond} (hm : ∀ w ∈ ws, w ∈ big) (h : ws.all goodWord = true) : GoodIn big ws := fun w hw => ⟨hm w hw, good_of_word (List.all_eq_true.mp h w hw)⟩
/-! ===== END ===== -/

/-! ===== BEGIN printed: names, fields, word lists, decode rows ===== -/
def RX0 : String := "GalaHeats$Answers"
def TX0 : u_T := fun k => match k with
  | _ => ("", "", "", false)
def tyX0 : Nat → FieldType := fun k => match k with
  | _ => .int
abbrev wsX00 : List Cond := u_ws RX0 TX0 0
theorem nmX0 : ∀ a, a < 0 → ∀ b, b < 0 → a ≠ b → (TX0 a).2.1 ≠ (TX0 b).2.1 := by decide +kernel
theorem tyX0_ok : ∀ k, k < 0 → parseFieldDescriptor (TX0 k).2.2.1 = some (tyX0 k) := by decide +kernel
abbrev cX0_ofSwimmer : ByteArray := prog_2_method_2_code
def yX0_ofSwimmer : MethodName := ⟨RX0, "ofSwimmer", "(LGalaHeats$Meet;LGalaHeats$Swimmer;I)I"⟩
abbrev cX0_aboveZero : ByteArray := prog_2_method_3_code
def yX0_aboveZero : MethodName := ⟨RX0, "aboveZero", "(I)I"⟩
abbrev cX0_ofMeet : ByteArray := prog_2_method_11_code
def yX0_ofMeet : MethodName := ⟨RX0, "ofMeet", "(LGalaHeats$Meet;I)I"⟩
abbrev cX0_scratchedSet : ByteArray := prog_2_method_12_code
def yX0_scratchedSet : MethodName := ⟨RX0, "scratchedSet", "(LGalaHeats$Meet;)I"⟩
abbrev cX0_freeReserves : ByteArray := prog_2_method_13_code
def yX0_freeReserves : MethodName := ⟨RX0, "freeReserves", "(LGalaHeats$Meet;)I"⟩
abbrev cX0_timesOfEvent : ByteArray := prog_2_method_14_code
def yX0_timesOfEvent : MethodName := ⟨RX0, "timesOfEvent", "(LGalaHeats$Meet;)I"⟩
def RX1 : String := "GalaHeats$Changes"
def TX1 : u_T := fun k => match k with
  | _ => ("", "", "", false)
def tyX1 : Nat → FieldType := fun k => match k with
  | _ => .int
abbrev wsX10 : List Cond := u_ws RX1 TX1 0
theorem nmX1 : ∀ a, a < 0 → ∀ b, b < 0 → a ≠ b → (TX1 a).2.1 ≠ (TX1 b).2.1 := by decide +kernel
theorem tyX1_ok : ∀ k, k < 0 → parseFieldDescriptor (TX1 k).2.2.1 = some (tyX1 k) := by decide +kernel
abbrev cX1_addSwimmer : ByteArray := prog_3_method_2_code
def yX1_addSwimmer : MethodName := ⟨RX1, "addSwimmer", "(LGalaHeats$Meet;II)I"⟩
abbrev cX1_isTimeOrZero : ByteArray := prog_3_method_3_code
def yX1_isTimeOrZero : MethodName := ⟨RX1, "isTimeOrZero", "(I)Z"⟩
abbrev cX1_withdraw : ByteArray := prog_3_method_4_code
def yX1_withdraw : MethodName := ⟨RX1, "withdraw", "(LGalaHeats$Meet;I)I"⟩
abbrev cX1_callReserve : ByteArray := prog_3_method_5_code
def yX1_callReserve : MethodName := ⟨RX1, "callReserve", "(LGalaHeats$Meet;LGalaHeats$Swimmer;)I"⟩
abbrev cX1_changeSetting : ByteArray := prog_3_method_6_code
def yX1_changeSetting : MethodName := ⟨RX1, "changeSetting", "(LGalaHeats$Meet;II)I"⟩
abbrev cX1_drawHeats : ByteArray := prog_3_method_7_code
def yX1_drawHeats : MethodName := ⟨RX1, "drawHeats", "(LGalaHeats$Meet;)I"⟩
abbrev cX1_giveTime : ByteArray := prog_3_method_8_code
def yX1_giveTime : MethodName := ⟨RX1, "giveTime", "(LGalaHeats$Meet;II)I"⟩
abbrev cX1_noteRecord : ByteArray := prog_3_method_9_code
def yX1_noteRecord : MethodName := ⟨RX1, "noteRecord", "(LGalaHeats$Meet;II)V"⟩
abbrev cX1_drawFinal : ByteArray := prog_3_method_10_code
def yX1_drawFinal : MethodName := ⟨RX1, "drawFinal", "(LGalaHeats$Meet;)I"⟩
abbrev cX1_seatByTime : ByteArray := prog_3_method_11_code
def yX1_seatByTime : MethodName := ⟨RX1, "seatByTime", "(LGalaHeats$Meet;LGalaHeats$Swimmer;)V"⟩
abbrev cX1_endEvent : ByteArray := prog_3_method_12_code
def yX1_endEvent : MethodName := ⟨RX1, "endEvent", "(LGalaHeats$Meet;)I"⟩
abbrev cX1_beginNextEvent : ByteArray := prog_3_method_13_code
def yX1_beginNextEvent : MethodName := ⟨RX1, "beginNextEvent", "(LGalaHeats$Meet;)I"⟩
def RX2 : String := "GalaHeats$HeatDraw"
def TX2 : u_T := fun k => match k with
  | _ => ("", "", "", false)
def tyX2 : Nat → FieldType := fun k => match k with
  | _ => .int
abbrev wsX20 : List Cond := u_ws RX2 TX2 0
theorem nmX2 : ∀ a, a < 0 → ∀ b, b < 0 → a ≠ b → (TX2 a).2.1 ≠ (TX2 b).2.1 := by decide +kernel
theorem tyX2_ok : ∀ k, k < 0 → parseFieldDescriptor (TX2 k).2.2.1 = some (tyX2 k) := by decide +kernel
abbrev cX2_heatsFor : ByteArray := prog_4_method_2_code
def yX2_heatsFor : MethodName := ⟨RX2, "heatsFor", "(II)I"⟩
abbrev cX2_spread : ByteArray := prog_4_method_3_code
def yX2_spread : MethodName := ⟨RX2, "spread", "(LGalaHeats$Meet;)V"⟩
abbrev cX2_heatOfRank : ByteArray := prog_4_method_4_code
def yX2_heatOfRank : MethodName := ⟨RX2, "heatOfRank", "(III)I"⟩
abbrev cX2_fillFirstHeat : ByteArray := prog_4_method_5_code
def yX2_fillFirstHeat : MethodName := ⟨RX2, "fillFirstHeat", "(LGalaHeats$Meet;)V"⟩
abbrev cX2_sizeOf : ByteArray := prog_4_method_6_code
def yX2_sizeOf : MethodName := ⟨RX2, "sizeOf", "(LGalaHeats$Meet;I)I"⟩
abbrev cX2_lastOf : ByteArray := prog_4_method_7_code
def yX2_lastOf : MethodName := ⟨RX2, "lastOf", "(LGalaHeats$Meet;I)I"⟩
abbrev cX2_giveLanes : ByteArray := prog_4_method_8_code
def yX2_giveLanes : MethodName := ⟨RX2, "giveLanes", "(LGalaHeats$Meet;)V"⟩
abbrev cX2_rankInHeat : ByteArray := prog_4_method_9_code
def yX2_rankInHeat : MethodName := ⟨RX2, "rankInHeat", "(LGalaHeats$Meet;LGalaHeats$Swimmer;)I"⟩
def RX3 : String := "GalaHeats$History"
def TX3 : u_T := fun k => match k with
  | 0 => ("GalaHeats$History", "rows", "[LGalaHeats$Meet;", true)
  | _ => ("GalaHeats$History", "kept", "I", false)
def tyX3 : Nat → FieldType := fun k => match k with
  | 0 => .array (.object "GalaHeats$Meet")
  | _ => .int
abbrev wsX30 : List Cond := u_ws RX3 TX3 2
theorem nmX3 : ∀ a, a < 2 → ∀ b, b < 2 → a ≠ b → (TX3 a).2.1 ≠ (TX3 b).2.1 := by decide +kernel
theorem tyX3_ok : ∀ k, k < 2 → parseFieldDescriptor (TX3 k).2.2.1 = some (tyX3 k) := by decide +kernel
abbrev cX3_init : ByteArray := prog_5_method_1_code
def yX3_init : MethodName := ⟨RX3, "<init>", "()V"⟩
abbrev cX3_prepare : ByteArray := prog_5_method_2_code
def yX3_prepare : MethodName := ⟨RX3, "prepare", "(LGalaHeats$Meet;)V"⟩
abbrev cX3_keepUnlessError : ByteArray := prog_5_method_3_code
def yX3_keepUnlessError : MethodName := ⟨RX3, "keepUnlessError", "(I)I"⟩
abbrev cX3_dropOldest : ByteArray := prog_5_method_4_code
def yX3_dropOldest : MethodName := ⟨RX3, "dropOldest", "()V"⟩
def RX4 : String := "GalaHeats$Lanes"
def TX4 : u_T := fun k => match k with
  | _ => ("", "", "", false)
def tyX4 : Nat → FieldType := fun k => match k with
  | _ => .int
abbrev wsX40 : List Cond := u_ws RX4 TX4 0
theorem nmX4 : ∀ a, a < 0 → ∀ b, b < 0 → a ≠ b → (TX4 a).2.1 ≠ (TX4 b).2.1 := by decide +kernel
theorem tyX4_ok : ∀ k, k < 0 → parseFieldDescriptor (TX4 k).2.2.1 = some (tyX4 k) := by decide +kernel
abbrev cX4_ofRank : ByteArray := prog_6_method_2_code
def yX4_ofRank : MethodName := ⟨RX4, "ofRank", "(II)I"⟩
def RX5 : String := "GalaHeats$Meet"
def TX5 : u_T := fun k => match k with
  | 0 => ("GalaHeats$Meet", "settings", "[I", true)
  | 1 => ("GalaHeats$Meet", "all", "[LGalaHeats$Swimmer;", true)
  | 2 => ("GalaHeats$Meet", "reserves", "[I", true)
  | 3 => ("GalaHeats$Meet", "size", "I", false)
  | 4 => ("GalaHeats$Meet", "stage", "I", false)
  | 5 => ("GalaHeats$Meet", "heats", "I", false)
  | 6 => ("GalaHeats$Meet", "reservesDrawn", "I", false)
  | 7 => ("GalaHeats$Meet", "reservesCalled", "I", false)
  | 8 => ("GalaHeats$Meet", "eventsEnded", "I", false)
  | 9 => ("GalaHeats$Meet", "record", "I", false)
  | _ => ("GalaHeats$Meet", "recordSwimmer", "I", false)
def tyX5 : Nat → FieldType := fun k => match k with
  | 0 => .array .int
  | 1 => .array (.object "GalaHeats$Swimmer")
  | 2 => .array .int
  | 3 => .int
  | 4 => .int
  | 5 => .int
  | 6 => .int
  | 7 => .int
  | 8 => .int
  | 9 => .int
  | _ => .int
abbrev wsX50 : List Cond := u_ws RX5 TX5 11
theorem nmX5 : ∀ a, a < 11 → ∀ b, b < 11 → a ≠ b → (TX5 a).2.1 ≠ (TX5 b).2.1 := by decide +kernel
theorem tyX5_ok : ∀ k, k < 11 → parseFieldDescriptor (TX5 k).2.2.1 = some (tyX5 k) := by decide +kernel
abbrev cX5_init : ByteArray := prog_7_method_1_code
def yX5_init : MethodName := ⟨RX5, "<init>", "()V"⟩
abbrev cX5_copyFrom : ByteArray := prog_7_method_2_code
def yX5_copyFrom : MethodName := ⟨RX5, "copyFrom", "(LGalaHeats$Meet;)V"⟩
abbrev cX5_lanes : ByteArray := prog_7_method_3_code
def yX5_lanes : MethodName := ⟨RX5, "lanes", "()I"⟩
abbrev cX5_has : ByteArray := prog_7_method_4_code
def yX5_has : MethodName := ⟨RX5, "has", "(I)Z"⟩
abbrev cX5_notScratched : ByteArray := prog_7_method_6_code
def yX5_notScratched : MethodName := ⟨RX5, "notScratched", "()I"⟩
abbrev cX5_rankByEntry : ByteArray := prog_7_method_7_code
def yX5_rankByEntry : MethodName := ⟨RX5, "rankByEntry", "(LGalaHeats$Swimmer;)I"⟩
abbrev cX5_rankByHeatTime : ByteArray := prog_7_method_8_code
def yX5_rankByHeatTime : MethodName := ⟨RX5, "rankByHeatTime", "(LGalaHeats$Swimmer;)I"⟩
abbrev cX5_swimsNow : ByteArray := prog_7_method_9_code
def yX5_swimsNow : MethodName := ⟨RX5, "swimsNow", "(LGalaHeats$Swimmer;)Z"⟩
abbrev cX5_stageTime : ByteArray := prog_7_method_10_code
def yX5_stageTime : MethodName := ⟨RX5, "stageTime", "(LGalaHeats$Swimmer;)I"⟩
abbrev cX5_fasterThan : ByteArray := prog_7_method_11_code
def yX5_fasterThan : MethodName := ⟨RX5, "fasterThan", "(I)I"⟩
abbrev cX5_timesAboveZero : ByteArray := prog_7_method_12_code
def yX5_timesAboveZero : MethodName := ⟨RX5, "timesAboveZero", "()I"⟩
abbrev cX5_stillToSwim : ByteArray := prog_7_method_13_code
def yX5_stillToSwim : MethodName := ⟨RX5, "stillToSwim", "(I)I"⟩
abbrev cX5_reasonToWait : ByteArray := prog_7_method_14_code
def yX5_reasonToWait : MethodName := ⟨RX5, "reasonToWait", "()I"⟩
abbrev cX5_canBeCalled : ByteArray := prog_7_method_15_code
def yX5_canBeCalled : MethodName := ⟨RX5, "canBeCalled", "(I)Z"⟩
abbrev cX5_freeReserve : ByteArray := prog_7_method_16_code
def yX5_freeReserve : MethodName := ⟨RX5, "freeReserve", "(I)I"⟩
abbrev cX5_finalSet : ByteArray := prog_7_method_17_code
def yX5_finalSet : MethodName := ⟨RX5, "finalSet", "()I"⟩
def RX6 : String := "GalaHeats$OrderText"
def TX6 : u_T := fun k => match k with
  | 0 => ("GalaHeats$OrderText", "signs", "[I", true)
  | 1 => ("GalaHeats$OrderText", "length", "I", false)
  | 2 => ("GalaHeats$OrderText", "start", "I", false)
  | 3 => ("GalaHeats$OrderText", "position", "I", false)
  | 4 => ("GalaHeats$OrderText", "kind", "I", false)
  | 5 => ("GalaHeats$OrderText", "first", "I", false)
  | 6 => ("GalaHeats$OrderText", "second", "I", false)
  | _ => ("GalaHeats$OrderText", "number", "I", false)
def tyX6 : Nat → FieldType := fun k => match k with
  | 0 => .array .int
  | 1 => .int
  | 2 => .int
  | 3 => .int
  | 4 => .int
  | 5 => .int
  | 6 => .int
  | _ => .int
abbrev wsX60 : List Cond := u_ws RX6 TX6 8
theorem nmX6 : ∀ a, a < 8 → ∀ b, b < 8 → a ≠ b → (TX6 a).2.1 ≠ (TX6 b).2.1 := by decide +kernel
theorem tyX6_ok : ∀ k, k < 8 → parseFieldDescriptor (TX6 k).2.2.1 = some (tyX6 k) := by decide +kernel
abbrev cX6_init : ByteArray := prog_8_method_1_code
def yX6_init : MethodName := ⟨RX6, "<init>", "()V"⟩
def RX7 : String := "GalaHeats$Rehearsal"
def TX7 : u_T := fun k => match k with
  | 0 => ("GalaHeats$Rehearsal", "orders", "I", false)
  | 1 => ("GalaHeats$Rehearsal", "position", "I", false)
  | 2 => ("GalaHeats$Rehearsal", "reason", "I", false)
  | _ => ("GalaHeats$Rehearsal", "cause", "I", false)
def tyX7 : Nat → FieldType := fun k => match k with
  | 0 => .int
  | 1 => .int
  | 2 => .int
  | _ => .int
abbrev wsX70 : List Cond := u_ws RX7 TX7 4
theorem nmX7 : ∀ a, a < 4 → ∀ b, b < 4 → a ≠ b → (TX7 a).2.1 ≠ (TX7 b).2.1 := by decide +kernel
theorem tyX7_ok : ∀ k, k < 4 → parseFieldDescriptor (TX7 k).2.2.1 = some (tyX7 k) := by decide +kernel
abbrev cX7_init : ByteArray := prog_9_method_1_code
def yX7_init : MethodName := ⟨RX7, "<init>", "()V"⟩
def RX8 : String := "GalaHeats$Scores"
def TX8 : u_T := fun k => match k with
  | _ => ("", "", "", false)
def tyX8 : Nat → FieldType := fun k => match k with
  | _ => .int
abbrev wsX80 : List Cond := u_ws RX8 TX8 0
theorem nmX8 : ∀ a, a < 0 → ∀ b, b < 0 → a ≠ b → (TX8 a).2.1 ≠ (TX8 b).2.1 := by decide +kernel
theorem tyX8_ok : ∀ k, k < 0 → parseFieldDescriptor (TX8 k).2.2.1 = some (tyX8 k) := by decide +kernel
abbrev cX8_place : ByteArray := prog_10_method_2_code
def yX8_place : MethodName := ⟨RX8, "place", "(LGalaHeats$Meet;LGalaHeats$Swimmer;)V"⟩
abbrev cX8_shared : ByteArray := prog_10_method_3_code
def yX8_shared : MethodName := ⟨RX8, "shared", "(III)I"⟩
abbrev cX8_ofClub : ByteArray := prog_10_method_4_code
def yX8_ofClub : MethodName := ⟨RX8, "ofClub", "(LGalaHeats$Meet;I)I"⟩
abbrev cX8_ofAllClubs : ByteArray := prog_10_method_5_code
def yX8_ofAllClubs : MethodName := ⟨RX8, "ofAllClubs", "(LGalaHeats$Meet;)I"⟩
def RX9 : String := "GalaHeats$Settings"
def TX9 : u_T := fun k => match k with
  | _ => ("", "", "", false)
def tyX9 : Nat → FieldType := fun k => match k with
  | _ => .int
abbrev wsX90 : List Cond := u_ws RX9 TX9 0
theorem nmX9 : ∀ a, a < 0 → ∀ b, b < 0 → a ≠ b → (TX9 a).2.1 ≠ (TX9 b).2.1 := by decide +kernel
theorem tyX9_ok : ∀ k, k < 0 → parseFieldDescriptor (TX9 k).2.2.1 = some (tyX9 k) := by decide +kernel
abbrev cX9_allow : ByteArray := prog_11_method_2_code
def yX9_allow : MethodName := ⟨RX9, "allow", "(II)Z"⟩
def RX10 : String := "GalaHeats$Swimmer"
def TX10 : u_T := fun k => match k with
  | 0 => ("GalaHeats$Swimmer", "number", "I", true)
  | 1 => ("GalaHeats$Swimmer", "club", "I", false)
  | 2 => ("GalaHeats$Swimmer", "entry", "I", false)
  | 3 => ("GalaHeats$Swimmer", "scratched", "Z", false)
  | 4 => ("GalaHeats$Swimmer", "heat", "I", false)
  | 5 => ("GalaHeats$Swimmer", "heatLane", "I", false)
  | 6 => ("GalaHeats$Swimmer", "heatTime", "I", false)
  | 7 => ("GalaHeats$Swimmer", "finalLane", "I", false)
  | 8 => ("GalaHeats$Swimmer", "finalTime", "I", false)
  | 9 => ("GalaHeats$Swimmer", "place", "I", false)
  | _ => ("GalaHeats$Swimmer", "brought", "I", false)
def tyX10 : Nat → FieldType := fun k => match k with
  | 0 => .int
  | 1 => .int
  | 2 => .int
  | 3 => .boolean
  | 4 => .int
  | 5 => .int
  | 6 => .int
  | 7 => .int
  | 8 => .int
  | 9 => .int
  | _ => .int
abbrev wsX100 : List Cond := u_ws RX10 TX10 11
theorem nmX10 : ∀ a, a < 11 → ∀ b, b < 11 → a ≠ b → (TX10 a).2.1 ≠ (TX10 b).2.1 := by decide +kernel
theorem tyX10_ok : ∀ k, k < 11 → parseFieldDescriptor (TX10 k).2.2.1 = some (tyX10 k) := by decide +kernel
abbrev cX10_init : ByteArray := prog_12_method_1_code
def yX10_init : MethodName := ⟨RX10, "<init>", "(I)V"⟩
abbrev cX10_join : ByteArray := prog_12_method_2_code
def yX10_join : MethodName := ⟨RX10, "join", "(II)V"⟩
abbrev cX10_forgetEvent : ByteArray := prog_12_method_3_code
def yX10_forgetEvent : MethodName := ⟨RX10, "forgetEvent", "()V"⟩
abbrev cX10_leaveHeat : ByteArray := prog_12_method_4_code
def yX10_leaveHeat : MethodName := ⟨RX10, "leaveHeat", "()V"⟩
abbrev cX10_leaveFinal : ByteArray := prog_12_method_5_code
def yX10_leaveFinal : MethodName := ⟨RX10, "leaveFinal", "()V"⟩
abbrev cX10_aheadByEntry : ByteArray := prog_12_method_9_code
def yX10_aheadByEntry : MethodName := ⟨RX10, "aheadByEntry", "(LGalaHeats$Swimmer;)Z"⟩
abbrev cX10_aheadByHeatTime : ByteArray := prog_12_method_10_code
def yX10_aheadByHeatTime : MethodName := ⟨RX10, "aheadByHeatTime", "(LGalaHeats$Swimmer;)Z"⟩
abbrev cX10_bestTime : ByteArray := prog_12_method_11_code
def yX10_bestTime : MethodName := ⟨RX10, "bestTime", "()I"⟩
abbrev cX10_copyFrom : ByteArray := prog_12_method_12_code
def yX10_copyFrom : MethodName := ⟨RX10, "copyFrom", "(LGalaHeats$Swimmer;)V"⟩
def RX11 : String := "GalaHeats"
def TX11 : u_T := fun k => match k with
  | 0 => ("GalaHeats", "meet", "LGalaHeats$Meet;", true)
  | 1 => ("GalaHeats", "trial", "LGalaHeats$Meet;", true)
  | 2 => ("GalaHeats", "history", "LGalaHeats$History;", true)
  | 3 => ("GalaHeats", "text", "LGalaHeats$OrderText;", true)
  | _ => ("GalaHeats", "rehearsal", "LGalaHeats$Rehearsal;", true)
def tyX11 : Nat → FieldType := fun k => match k with
  | 0 => .object "GalaHeats$Meet"
  | 1 => .object "GalaHeats$Meet"
  | 2 => .object "GalaHeats$History"
  | 3 => .object "GalaHeats$OrderText"
  | _ => .object "GalaHeats$Rehearsal"
abbrev wsX110 : List Cond := u_ws RX11 TX11 5
theorem nmX11 : ∀ a, a < 5 → ∀ b, b < 5 → a ≠ b → (TX11 a).2.1 ≠ (TX11 b).2.1 := by decide +kernel
theorem tyX11_ok : ∀ k, k < 5 → parseFieldDescriptor (TX11 k).2.2.1 = some (tyX11 k) := by decide +kernel
abbrev cX11_init : ByteArray := prog_1_method_1_code
def yX11_init : MethodName := ⟨RX11, "<init>", "()V"⟩
abbrev cX11_enter : ByteArray := prog_1_method_2_code
def yX11_enter : MethodName := ⟨RX11, "enter", "(II)I"⟩
abbrev cX11_scratch : ByteArray := prog_1_method_3_code
def yX11_scratch : MethodName := ⟨RX11, "scratch", "(I)I"⟩
abbrev cX11_set : ByteArray := prog_1_method_4_code
def yX11_set : MethodName := ⟨RX11, "set", "(II)I"⟩
abbrev cX11_draw : ByteArray := prog_1_method_5_code
def yX11_draw : MethodName := ⟨RX11, "draw", "()I"⟩
abbrev cX11_swim : ByteArray := prog_1_method_6_code
def yX11_swim : MethodName := ⟨RX11, "swim", "(II)I"⟩
abbrev cX11_finals : ByteArray := prog_1_method_7_code
def yX11_finals : MethodName := ⟨RX11, "finals", "()I"⟩
abbrev cX11_end : ByteArray := prog_1_method_8_code
def yX11_end : MethodName := ⟨RX11, "end", "()I"⟩
abbrev cX11_next : ByteArray := prog_1_method_9_code
def yX11_next : MethodName := ⟨RX11, "next", "()I"⟩
abbrev cX11_swimmer : ByteArray := prog_1_method_10_code
def yX11_swimmer : MethodName := ⟨RX11, "swimmer", "(II)I"⟩
abbrev cX11_reserve : ByteArray := prog_1_method_13_code
def yX11_reserve : MethodName := ⟨RX11, "reserve", "(I)I"⟩
abbrev cX11_points : ByteArray := prog_1_method_14_code
def yX11_points : MethodName := ⟨RX11, "points", "(I)I"⟩
abbrev cX11_why : ByteArray := prog_1_method_17_code
def yX11_why : MethodName := ⟨RX11, "why", "()I"⟩
abbrev cX11_missing : ByteArray := prog_1_method_18_code
def yX11_missing : MethodName := ⟨RX11, "missing", "(I)I"⟩
abbrev cX11_count : ByteArray := prog_1_method_21_code
def yX11_count : MethodName := ⟨RX11, "count", "(I)I"⟩
def RX12 : String := "GalaHeatsModel"
def TX12 : u_T := fun k => match k with
  | _ => ("", "", "", false)
def tyX12 : Nat → FieldType := fun k => match k with
  | _ => .int
abbrev wsX120 : List Cond := u_ws RX12 TX12 0
theorem nmX12 : ∀ a, a < 0 → ∀ b, b < 0 → a ≠ b → (TX12 a).2.1 ≠ (TX12 b).2.1 := by decide +kernel
theorem tyX12_ok : ∀ k, k < 0 → parseFieldDescriptor (TX12 k).2.2.1 = some (tyX12 k) := by decide +kernel
def RL : String := "GalaHeatsLaw"
abbrev cL_cell : ByteArray := method_2_code
def yL_cell : MethodName := ⟨RL, "cell", "([II)I"⟩
abbrev cL_isAhead : ByteArray := method_4_code
def yL_isAhead : MethodName := ⟨RL, "isAhead", "([III)Z"⟩
abbrev cL_rank : ByteArray := method_5_code
def yL_rank : MethodName := ⟨RL, "rank", "([I[II)I"⟩
abbrev cL_timeRank : ByteArray := method_6_code
def yL_timeRank : MethodName := ⟨RL, "timeRank", "([I[I[II)I"⟩
abbrev cL_lane : ByteArray := method_7_code
def yL_lane : MethodName := ⟨RL, "lane", "(II)I"⟩
abbrev cL_plan : ByteArray := method_8_code
def yL_plan : MethodName := ⟨RL, "plan", "([I[I[I)I"⟩
abbrev cL_planLane : ByteArray := method_9_code
def yL_planLane : MethodName := ⟨RL, "planLane", "([I[II)I"⟩
abbrev cL_isAsked : ByteArray := method_10_code
def yL_isAsked : MethodName := ⟨RL, "isAsked", "([I[I[I[II)Z"⟩
abbrev cL_time : ByteArray := method_11_code
def yL_time : MethodName := ⟨RL, "time", "([I[I[II)I"⟩
abbrev cL_why : ByteArray := method_12_code
def yL_why : MethodName := ⟨RL, "why", "([I[I[I[I)I"⟩
abbrev cL_scratch : ByteArray := method_13_code
def yL_scratch : MethodName := ⟨RL, "scratch", "([I[I[I[I[II)I"⟩
abbrev cL_finals : ByteArray := method_14_code
def yL_finals : MethodName := ⟨RL, "finals", "([I[I[I[I[I)I"⟩
abbrev cL_end : ByteArray := method_15_code
def yL_end : MethodName := ⟨RL, "end", "([I[I[I[I[I)I"⟩
abbrev cL_next : ByteArray := method_16_code
def yL_next : MethodName := ⟨RL, "next", "([I[I[I[I[I)I"⟩
abbrev cL_swum : ByteArray := method_17_code
def yL_swum : MethodName := ⟨RL, "swum", "([I[I[III)I"⟩
abbrev cL_areSwimmers : ByteArray := method_18_code
def yL_areSwimmers : MethodName := ⟨RL, "areSwimmers", "(LGalaHeats;[I[I[I[I[I)Z"⟩
abbrev cL_areRest : ByteArray := method_19_code
def yL_areRest : MethodName := ⟨RL, "areRest", "(LGalaHeats;[I[I[I[I[I[I)Z"⟩
abbrev cL_isStage : ByteArray := method_20_code
def yL_isStage : MethodName := ⟨RL, "isStage", "(LGalaHeats;[I[I[I[I[I[I[I[I)Z"⟩
abbrev cL_isSwum : ByteArray := method_21_code
def yL_isSwum : MethodName := ⟨RL, "isSwum", "(LGalaHeats;[I[I[I[III)Z"⟩
abbrev cL_isActed : ByteArray := method_22_code
def yL_isActed : MethodName := ⟨RL, "isActed", "(LGalaHeats;[I[I[I[I[I[I[I[III)Z"⟩
abbrev cL_law : ByteArray := code
def yL_law : MethodName := ⟨RL, "law", "([I)Z"⟩
abbrev vwCl : List vw_C := [(RX3, TX3, 2), (RX5, TX5, 11), (RX6, TX6, 8), (RX7, TX7, 4), (RX10, TX10, 11), (RX11, TX11, 5)]
