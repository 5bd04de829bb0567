/-! ===== BEGIN printed: names, fields, word lists, decode rows ===== -/
def RX0 : String := "GuardWalks$BestPhases"
def TX0 : u_T := fun k => match k with
  | 0 => ("GuardWalks$BestPhases", "phases", "[I", true)
  | 1 => ("GuardWalks$BestPhases", "worst", "I", false)
  | 2 => ("GuardWalks$BestPhases", "crossings", "I", false)
  | 3 => ("GuardWalks$BestPhases", "stamp", "I", false)
  | 4 => ("GuardWalks$BestPhases", "spans", "[I", true)
  | 5 => ("GuardWalks$BestPhases", "trial", "LGuardWalks$House;", true)
  | _ => ("GuardWalks$BestPhases", "trialSightings", "LGuardWalks$Sightings;", true)
def tyX0 : Nat → FieldType := fun k => match k with
  | 0 => .array .int
  | 1 => .int
  | 2 => .int
  | 3 => .int
  | 4 => .array .int
  | 5 => .object "GuardWalks$House"
  | _ => .object "GuardWalks$Sightings"
abbrev wsX00 : List Cond := u_ws RX0 TX0 7
theorem nmX0 : ∀ a, a < 7 → ∀ b, b < 7 → a ≠ b → (TX0 a).2.1 ≠ (TX0 b).2.1 := by decide +kernel
theorem tyX0_ok : ∀ k, k < 7 → parseFieldDescriptor (TX0 k).2.2.1 = some (tyX0 k) := by decide +kernel
abbrev cX0_init : ByteArray := prog_2_method_1_code
def yX0_init : MethodName := ⟨RX0, "<init>", "()V"⟩
abbrev cX0_search : ByteArray := prog_2_method_2_code
def yX0_search : MethodName := ⟨RX0, "search", "(LGuardWalks$House;)V"⟩
abbrev cX0_beginChoices : ByteArray := prog_2_method_3_code
def yX0_beginChoices : MethodName := ⟨RX0, "beginChoices", "()I"⟩
abbrev cX0_nextChoice : ByteArray := prog_2_method_4_code
def yX0_nextChoice : MethodName := ⟨RX0, "nextChoice", "()V"⟩
abbrev cX0_tryPhases : ByteArray := prog_2_method_5_code
def yX0_tryPhases : MethodName := ⟨RX0, "tryPhases", "(Z)V"⟩
def RX1 : String := "GuardWalks$History"
def TX1 : u_T := fun k => match k with
  | 0 => ("GuardWalks$History", "earlier", "[LGuardWalks$House;", true)
  | 1 => ("GuardWalks$History", "snapshot", "LGuardWalks$House;", true)
  | 2 => ("GuardWalks$History", "saved", "Z", false)
  | 3 => ("GuardWalks$History", "next", "I", false)
  | _ => ("GuardWalks$History", "count", "I", false)
def tyX1 : Nat → FieldType := fun k => match k with
  | 0 => .array (.object "GuardWalks$House")
  | 1 => .object "GuardWalks$House"
  | 2 => .boolean
  | 3 => .int
  | _ => .int
abbrev wsX10 : List Cond := u_ws RX1 TX1 5
theorem nmX1 : ∀ a, a < 5 → ∀ b, b < 5 → a ≠ b → (TX1 a).2.1 ≠ (TX1 b).2.1 := by decide +kernel
theorem tyX1_ok : ∀ k, k < 5 → parseFieldDescriptor (TX1 k).2.2.1 = some (tyX1 k) := by decide +kernel
abbrev cX1_init : ByteArray := prog_3_method_1_code
def yX1_init : MethodName := ⟨RX1, "<init>", "()V"⟩
abbrev cX1_record : ByteArray := prog_3_method_2_code
def yX1_record : MethodName := ⟨RX1, "record", "(LGuardWalks$House;)V"⟩
abbrev cX1_takeBack : ByteArray := prog_3_method_3_code
def yX1_takeBack : MethodName := ⟨RX1, "takeBack", "(LGuardWalks$House;)Z"⟩
abbrev cX1_keepSnapshot : ByteArray := prog_3_method_4_code
def yX1_keepSnapshot : MethodName := ⟨RX1, "keepSnapshot", "(LGuardWalks$House;)V"⟩
abbrev cX1_bringSnapshot : ByteArray := prog_3_method_5_code
def yX1_bringSnapshot : MethodName := ⟨RX1, "bringSnapshot", "(LGuardWalks$House;)Z"⟩
abbrev cX1_forget : ByteArray := prog_3_method_6_code
def yX1_forget : MethodName := ⟨RX1, "forget", "()V"⟩
def RX2 : String := "GuardWalks$House"
def TX2 : u_T := fun k => match k with
  | 0 => ("GuardWalks$House", "rooms", "I", false)
  | 1 => ("GuardWalks$House", "doors", "I", false)
  | 2 => ("GuardWalks$House", "guards", "I", false)
  | 3 => ("GuardWalks$House", "minute", "I", false)
  | 4 => ("GuardWalks$House", "openDoors", "I", false)
  | 5 => ("GuardWalks$House", "walksStamp", "I", false)
  | 6 => ("GuardWalks$House", "phasesStamp", "I", false)
  | 7 => ("GuardWalks$House", "doorFirst", "[I", true)
  | 8 => ("GuardWalks$House", "doorSecond", "[I", true)
  | 9 => ("GuardWalks$House", "joined", "[I", true)
  | 10 => ("GuardWalks$House", "limits", "[I", true)
  | 11 => ("GuardWalks$House", "periods", "[I", true)
  | 12 => ("GuardWalks$House", "phases", "[I", true)
  | 13 => ("GuardWalks$House", "walks", "[I", true)
  | 14 => ("GuardWalks$House", "walked", "[I", true)
  | 15 => ("GuardWalks$House", "sightings", "[I", true)
  | 16 => ("GuardWalks$House", "lastSeen", "[I", true)
  | 17 => ("GuardWalks$House", "runs", "[I", true)
  | _ => ("GuardWalks$House", "longestRuns", "[I", true)
def tyX2 : Nat → FieldType := fun k => match k with
  | 0 => .int
  | 1 => .int
  | 2 => .int
  | 3 => .int
  | 4 => .int
  | 5 => .int
  | 6 => .int
  | 7 => .array .int
  | 8 => .array .int
  | 9 => .array .int
  | 10 => .array .int
  | 11 => .array .int
  | 12 => .array .int
  | 13 => .array .int
  | 14 => .array .int
  | 15 => .array .int
  | 16 => .array .int
  | 17 => .array .int
  | _ => .array .int
abbrev wsX20 : List Cond := u_ws RX2 TX2 19
theorem nmX2 : ∀ a, a < 19 → ∀ b, b < 19 → a ≠ b → (TX2 a).2.1 ≠ (TX2 b).2.1 := by decide +kernel
theorem tyX2_ok : ∀ k, k < 19 → parseFieldDescriptor (TX2 k).2.2.1 = some (tyX2 k) := by decide +kernel
abbrev cX2_init : ByteArray := prog_4_method_1_code
def yX2_init : MethodName := ⟨RX2, "<init>", "()V"⟩
abbrev cX2_begin : ByteArray := prog_4_method_2_code
def yX2_begin : MethodName := ⟨RX2, "begin", "(I)V"⟩
abbrev cX2_copyFrom : ByteArray := prog_4_method_3_code
def yX2_copyFrom : MethodName := ⟨RX2, "copyFrom", "(LGuardWalks$House;)V"⟩
abbrev cX2_hasRoom : ByteArray := prog_4_method_5_code
def yX2_hasRoom : MethodName := ⟨RX2, "hasRoom", "(I)Z"⟩
abbrev cX2_hasDoor : ByteArray := prog_4_method_6_code
def yX2_hasDoor : MethodName := ⟨RX2, "hasDoor", "(I)Z"⟩
abbrev cX2_hasGuard : ByteArray := prog_4_method_7_code
def yX2_hasGuard : MethodName := ⟨RX2, "hasGuard", "(I)Z"⟩
abbrev cX2_addDoor : ByteArray := prog_4_method_8_code
def yX2_addDoor : MethodName := ⟨RX2, "addDoor", "(IIZ)V"⟩
abbrev cX2_isOpen : ByteArray := prog_4_method_9_code
def yX2_isOpen : MethodName := ⟨RX2, "isOpen", "(I)Z"⟩
abbrev cX2_setOpen : ByteArray := prog_4_method_10_code
def yX2_setOpen : MethodName := ⟨RX2, "setOpen", "(IZ)V"⟩
abbrev cX2_join : ByteArray := prog_4_method_11_code
def yX2_join : MethodName := ⟨RX2, "join", "(II)V"⟩
abbrev cX2_countOpenDoors : ByteArray := prog_4_method_12_code
def yX2_countOpenDoors : MethodName := ⟨RX2, "countOpenDoors", "()I"⟩
abbrev cX2_hasOtherOpenDoor : ByteArray := prog_4_method_14_code
def yX2_hasOtherOpenDoor : MethodName := ⟨RX2, "hasOtherOpenDoor", "(I)Z"⟩
abbrev cX2_isBetweenSameRooms : ByteArray := prog_4_method_15_code
def yX2_isBetweenSameRooms : MethodName := ⟨RX2, "isBetweenSameRooms", "(II)Z"⟩
abbrev cX2_areJoined : ByteArray := prog_4_method_16_code
def yX2_areJoined : MethodName := ⟨RX2, "areJoined", "(II)Z"⟩
abbrev cX2_doorsBetween : ByteArray := prog_4_method_17_code
def yX2_doorsBetween : MethodName := ⟨RX2, "doorsBetween", "(II)I"⟩
abbrev cX2_emptyWalk : ByteArray := prog_4_method_18_code
def yX2_emptyWalk : MethodName := ⟨RX2, "emptyWalk", "(I)V"⟩
abbrev cX2_addStep : ByteArray := prog_4_method_19_code
def yX2_addStep : MethodName := ⟨RX2, "addStep", "(II)V"⟩
abbrev cX2_walkRoom : ByteArray := prog_4_method_20_code
def yX2_walkRoom : MethodName := ⟨RX2, "walkRoom", "(II)I"⟩
abbrev cX2_lastRoom : ByteArray := prog_4_method_21_code
def yX2_lastRoom : MethodName := ⟨RX2, "lastRoom", "(I)I"⟩
abbrev cX2_canGo : ByteArray := prog_4_method_22_code
def yX2_canGo : MethodName := ⟨RX2, "canGo", "(II)Z"⟩
abbrev cX2_countGuardsThrough : ByteArray := prog_4_method_23_code
def yX2_countGuardsThrough : MethodName := ⟨RX2, "countGuardsThrough", "(I)I"⟩
abbrev cX2_goesThrough : ByteArray := prog_4_method_24_code
def yX2_goesThrough : MethodName := ⟨RX2, "goesThrough", "(III)Z"⟩
abbrev cX2_cycleLength : ByteArray := prog_4_method_26_code
def yX2_cycleLength : MethodName := ⟨RX2, "cycleLength", "()I"⟩
abbrev cX2_roomAt : ByteArray := prog_4_method_27_code
def yX2_roomAt : MethodName := ⟨RX2, "roomAt", "(II)I"⟩
abbrev cX2_guardsAt : ByteArray := prog_4_method_28_code
def yX2_guardsAt : MethodName := ⟨RX2, "guardsAt", "(II)I"⟩
abbrev cX2_roomsSeenAt : ByteArray := prog_4_method_29_code
def yX2_roomsSeenAt : MethodName := ⟨RX2, "roomsSeenAt", "(I)I"⟩
abbrev cX2_countPair : ByteArray := prog_4_method_30_code
def yX2_countPair : MethodName := ⟨RX2, "countPair", "(IIII)I"⟩
abbrev cX2_countCrossings : ByteArray := prog_4_method_31_code
def yX2_countCrossings : MethodName := ⟨RX2, "countCrossings", "()I"⟩
abbrev cX2_passMinute : ByteArray := prog_4_method_32_code
def yX2_passMinute : MethodName := ⟨RX2, "passMinute", "()I"⟩
abbrev cX2_countSightings : ByteArray := prog_4_method_33_code
def yX2_countSightings : MethodName := ⟨RX2, "countSightings", "()I"⟩
def RX3 : String := "GuardWalks$HouseReader"
def TX3 : u_T := fun k => match k with
  | _ => ("GuardWalks$HouseReader", "tokens", "LGuardWalks$Tokens;", true)
def tyX3 : Nat → FieldType := fun k => match k with
  | _ => .object "GuardWalks$Tokens"
abbrev wsX30 : List Cond := u_ws RX3 TX3 1
theorem nmX3 : ∀ a, a < 1 → ∀ b, b < 1 → a ≠ b → (TX3 a).2.1 ≠ (TX3 b).2.1 := by decide +kernel
theorem tyX3_ok : ∀ k, k < 1 → parseFieldDescriptor (TX3 k).2.2.1 = some (tyX3 k) := by decide +kernel
abbrev cX3_init : ByteArray := prog_5_method_1_code
def yX3_init : MethodName := ⟨RX3, "<init>", "(LGuardWalks$Tokens;)V"⟩
abbrev cX3_readHouse : ByteArray := prog_5_method_2_code
def yX3_readHouse : MethodName := ⟨RX3, "readHouse", "(LGuardWalks$House;)I"⟩
abbrev cX3_readChange : ByteArray := prog_5_method_3_code
def yX3_readChange : MethodName := ⟨RX3, "readChange", "(LGuardWalks$House;)I"⟩
abbrev cX3_readClause : ByteArray := prog_5_method_4_code
def yX3_readClause : MethodName := ⟨RX3, "readClause", "(LGuardWalks$House;)I"⟩
abbrev cX3_readSemicolon : ByteArray := prog_5_method_5_code
def yX3_readSemicolon : MethodName := ⟨RX3, "readSemicolon", "()I"⟩
abbrev cX3_readDoor : ByteArray := prog_5_method_6_code
def yX3_readDoor : MethodName := ⟨RX3, "readDoor", "(LGuardWalks$House;)I"⟩
abbrev cX3_readLimit : ByteArray := prog_5_method_7_code
def yX3_readLimit : MethodName := ⟨RX3, "readLimit", "(LGuardWalks$House;)I"⟩
abbrev cX3_readGuard : ByteArray := prog_5_method_8_code
def yX3_readGuard : MethodName := ⟨RX3, "readGuard", "(LGuardWalks$House;)I"⟩
abbrev cX3_readWalk : ByteArray := prog_5_method_9_code
def yX3_readWalk : MethodName := ⟨RX3, "readWalk", "(LGuardWalks$House;IZ)I"⟩
abbrev cX3_stepCode : ByteArray := prog_5_method_10_code
def yX3_stepCode : MethodName := ⟨RX3, "stepCode", "(LGuardWalks$House;I)I"⟩
abbrev cX3_endOfRoomsCode : ByteArray := prog_5_method_11_code
def yX3_endOfRoomsCode : MethodName := ⟨RX3, "endOfRoomsCode", "(LGuardWalks$House;IZ)I"⟩
def RX4 : String := "GuardWalks$Intruder"
def TX4 : u_T := fun k => match k with
  | 0 => ("GuardWalks$Intruder", "visited", "[I", true)
  | _ => ("GuardWalks$Intruder", "barred", "[I", true)
def tyX4 : Nat → FieldType := fun k => match k with
  | 0 => .array .int
  | _ => .array .int
abbrev wsX40 : List Cond := u_ws RX4 TX4 2
theorem nmX4 : ∀ a, a < 2 → ∀ b, b < 2 → a ≠ b → (TX4 a).2.1 ≠ (TX4 b).2.1 := by decide +kernel
theorem tyX4_ok : ∀ k, k < 2 → parseFieldDescriptor (TX4 k).2.2.1 = some (tyX4 k) := by decide +kernel
abbrev cX4_init : ByteArray := prog_6_method_1_code
def yX4_init : MethodName := ⟨RX4, "<init>", "()V"⟩
abbrev cX4_firstArrival : ByteArray := prog_6_method_2_code
def yX4_firstArrival : MethodName := ⟨RX4, "firstArrival", "(LGuardWalks$House;III)I"⟩
abbrev cX4_roomsAfter : ByteArray := prog_6_method_3_code
def yX4_roomsAfter : MethodName := ⟨RX4, "roomsAfter", "(LGuardWalks$House;III)I"⟩
abbrev cX4_roomsNext : ByteArray := prog_6_method_5_code
def yX4_roomsNext : MethodName := ⟨RX4, "roomsNext", "(LGuardWalks$House;II)I"⟩
abbrev cX4_barPassing : ByteArray := prog_6_method_6_code
def yX4_barPassing : MethodName := ⟨RX4, "barPassing", "(LGuardWalks$House;I)V"⟩
def RX5 : String := "GuardWalks$QueryReader"
def TX5 : u_T := fun k => match k with
  | 0 => ("GuardWalks$QueryReader", "tokens", "LGuardWalks$Tokens;", true)
  | 1 => ("GuardWalks$QueryReader", "left", "[I", true)
  | 2 => ("GuardWalks$QueryReader", "right", "[I", true)
  | 3 => ("GuardWalks$QueryReader", "error", "I", false)
  | _ => ("GuardWalks$QueryReader", "answer", "I", false)
def tyX5 : Nat → FieldType := fun k => match k with
  | 0 => .object "GuardWalks$Tokens"
  | 1 => .array .int
  | 2 => .array .int
  | 3 => .int
  | _ => .int
abbrev wsX50 : List Cond := u_ws RX5 TX5 5
theorem nmX5 : ∀ a, a < 5 → ∀ b, b < 5 → a ≠ b → (TX5 a).2.1 ≠ (TX5 b).2.1 := by decide +kernel
theorem tyX5_ok : ∀ k, k < 5 → parseFieldDescriptor (TX5 k).2.2.1 = some (tyX5 k) := by decide +kernel
abbrev cX5_init : ByteArray := prog_7_method_1_code
def yX5_init : MethodName := ⟨RX5, "<init>", "(LGuardWalks$Tokens;)V"⟩
def RX6 : String := "GuardWalks$Sightings"
def TX6 : u_T := fun k => match k with
  | 0 => ("GuardWalks$Sightings", "seen", "[I", true)
  | 1 => ("GuardWalks$Sightings", "gaps", "[I", true)
  | 2 => ("GuardWalks$Sightings", "gapStarts", "[I", true)
  | 3 => ("GuardWalks$Sightings", "first", "[I", true)
  | 4 => ("GuardWalks$Sightings", "last", "[I", true)
  | 5 => ("GuardWalks$Sightings", "steps", "[I", true)
  | 6 => ("GuardWalks$Sightings", "worst", "I", false)
  | _ => ("GuardWalks$Sightings", "stamp", "I", false)
def tyX6 : Nat → FieldType := fun k => match k with
  | 0 => .array .int
  | 1 => .array .int
  | 2 => .array .int
  | 3 => .array .int
  | 4 => .array .int
  | 5 => .array .int
  | 6 => .int
  | _ => .int
abbrev wsX60 : List Cond := u_ws RX6 TX6 8
theorem nmX6 : ∀ a, a < 8 → ∀ b, b < 8 → a ≠ b → (TX6 a).2.1 ≠ (TX6 b).2.1 := by decide +kernel
theorem tyX6_ok : ∀ k, k < 8 → parseFieldDescriptor (TX6 k).2.2.1 = some (tyX6 k) := by decide +kernel
abbrev cX6_init : ByteArray := prog_8_method_1_code
def yX6_init : MethodName := ⟨RX6, "<init>", "()V"⟩
abbrev cX6_measure : ByteArray := prog_8_method_2_code
def yX6_measure : MethodName := ⟨RX6, "measure", "(LGuardWalks$House;)V"⟩
abbrev cX6_seeMinute : ByteArray := prog_8_method_3_code
def yX6_seeMinute : MethodName := ⟨RX6, "seeMinute", "(LGuardWalks$House;I)V"⟩
abbrev cX6_seeRoom : ByteArray := prog_8_method_4_code
def yX6_seeRoom : MethodName := ⟨RX6, "seeRoom", "(II)V"⟩
abbrev cX6_closeRound : ByteArray := prog_8_method_5_code
def yX6_closeRound : MethodName := ⟨RX6, "closeRound", "(II)V"⟩
abbrev cX6_isLate : ByteArray := prog_8_method_6_code
def yX6_isLate : MethodName := ⟨RX6, "isLate", "(LGuardWalks$House;I)Z"⟩
abbrev cX6_countLate : ByteArray := prog_8_method_7_code
def yX6_countLate : MethodName := ⟨RX6, "countLate", "(LGuardWalks$House;)I"⟩
def RX7 : String := "GuardWalks$Tokens"
def TX7 : u_T := fun k => match k with
  | 0 => ("GuardWalks$Tokens", "bytes", "[I", true)
  | 1 => ("GuardWalks$Tokens", "filled", "I", false)
  | 2 => ("GuardWalks$Tokens", "from", "I", false)
  | 3 => ("GuardWalks$Tokens", "number", "I", false)
  | 4 => ("GuardWalks$Tokens", "to", "I", false)
  | 5 => ("GuardWalks$Tokens", "limit", "I", false)
  | _ => ("GuardWalks$Tokens", "kind", "I", false)
def tyX7 : Nat → FieldType := fun k => match k with
  | 0 => .array .int
  | 1 => .int
  | 2 => .int
  | 3 => .int
  | 4 => .int
  | 5 => .int
  | _ => .int
abbrev wsX70 : List Cond := u_ws RX7 TX7 7
theorem nmX7 : ∀ a, a < 7 → ∀ b, b < 7 → a ≠ b → (TX7 a).2.1 ≠ (TX7 b).2.1 := by decide +kernel
theorem tyX7_ok : ∀ k, k < 7 → parseFieldDescriptor (TX7 k).2.2.1 = some (tyX7 k) := by decide +kernel
abbrev cX7_init : ByteArray := prog_9_method_1_code
def yX7_init : MethodName := ⟨RX7, "<init>", "()V"⟩
abbrev cX7_addBytes : ByteArray := prog_9_method_2_code
def yX7_addBytes : MethodName := ⟨RX7, "addBytes", "(I)V"⟩
abbrev cX7_begin : ByteArray := prog_9_method_3_code
def yX7_begin : MethodName := ⟨RX7, "begin", "(I)V"⟩
abbrev cX7_advance : ByteArray := prog_9_method_4_code
def yX7_advance : MethodName := ⟨RX7, "advance", "()V"⟩
abbrev cX7_kindOf : ByteArray := prog_9_method_5_code
def yX7_kindOf : MethodName := ⟨RX7, "kindOf", "(I)I"⟩
abbrev cX7_isEnd : ByteArray := prog_9_method_6_code
def yX7_isEnd : MethodName := ⟨RX7, "isEnd", "()Z"⟩
abbrev cX7_isNumber : ByteArray := prog_9_method_7_code
def yX7_isNumber : MethodName := ⟨RX7, "isNumber", "()Z"⟩
abbrev cX7_isSign : ByteArray := prog_9_method_8_code
def yX7_isSign : MethodName := ⟨RX7, "isSign", "(C)Z"⟩
abbrev cX7_isWord : ByteArray := prog_9_method_9_code
def yX7_isWord : MethodName := ⟨RX7, "isWord", "(Ljava/lang/String;)Z"⟩
abbrev cX7_numberCode : ByteArray := prog_9_method_10_code
def yX7_numberCode : MethodName := ⟨RX7, "numberCode", "(II)I"⟩
def RX8 : String := "GuardWalks"
def TX8 : u_T := fun k => match k with
  | 0 => ("GuardWalks", "house", "LGuardWalks$House;", true)
  | 1 => ("GuardWalks", "scratch", "LGuardWalks$House;", true)
  | 2 => ("GuardWalks", "history", "LGuardWalks$History;", true)
  | 3 => ("GuardWalks", "sightings", "LGuardWalks$Sightings;", true)
  | 4 => ("GuardWalks", "trialSightings", "LGuardWalks$Sightings;", true)
  | 5 => ("GuardWalks", "bestPhases", "LGuardWalks$BestPhases;", true)
  | 6 => ("GuardWalks", "intruder", "LGuardWalks$Intruder;", true)
  | 7 => ("GuardWalks", "tokens", "LGuardWalks$Tokens;", true)
  | 8 => ("GuardWalks", "houseReader", "LGuardWalks$HouseReader;", true)
  | 9 => ("GuardWalks", "queryReader", "LGuardWalks$QueryReader;", true)
  | 10 => ("GuardWalks", "formatted", "[I", true)
  | 11 => ("GuardWalks", "formattedLength", "I", false)
  | 12 => ("GuardWalks", "lastErrorPosition", "I", false)
  | _ => ("GuardWalks", "lastStamp", "I", false)
def tyX8 : Nat → FieldType := fun k => match k with
  | 0 => .object "GuardWalks$House"
  | 1 => .object "GuardWalks$House"
  | 2 => .object "GuardWalks$History"
  | 3 => .object "GuardWalks$Sightings"
  | 4 => .object "GuardWalks$Sightings"
  | 5 => .object "GuardWalks$BestPhases"
  | 6 => .object "GuardWalks$Intruder"
  | 7 => .object "GuardWalks$Tokens"
  | 8 => .object "GuardWalks$HouseReader"
  | 9 => .object "GuardWalks$QueryReader"
  | 10 => .array .int
  | 11 => .int
  | 12 => .int
  | _ => .int
abbrev wsX80 : List Cond := u_ws RX8 TX8 14
theorem nmX8 : ∀ a, a < 14 → ∀ b, b < 14 → a ≠ b → (TX8 a).2.1 ≠ (TX8 b).2.1 := by decide +kernel
theorem tyX8_ok : ∀ k, k < 14 → parseFieldDescriptor (TX8 k).2.2.1 = some (tyX8 k) := by decide +kernel
abbrev cX8_init : ByteArray := prog_1_method_1_code
def yX8_init : MethodName := ⟨RX8, "<init>", "()V"⟩
abbrev cX8_feed : ByteArray := prog_1_method_2_code
def yX8_feed : MethodName := ⟨RX8, "feed", "(IIIII)I"⟩
abbrev cX8_load : ByteArray := prog_1_method_3_code
def yX8_load : MethodName := ⟨RX8, "load", "(I)I"⟩
abbrev cX8_size : ByteArray := prog_1_method_5_code
def yX8_size : MethodName := ⟨RX8, "size", "(I)I"⟩
abbrev cX8_door : ByteArray := prog_1_method_6_code
def yX8_door : MethodName := ⟨RX8, "door", "(II)I"⟩
abbrev cX8_room : ByteArray := prog_1_method_7_code
def yX8_room : MethodName := ⟨RX8, "room", "(II)I"⟩
abbrev cX8_guard : ByteArray := prog_1_method_8_code
def yX8_guard : MethodName := ⟨RX8, "guard", "(II)I"⟩
abbrev cX8_walk : ByteArray := prog_1_method_9_code
def yX8_walk : MethodName := ⟨RX8, "walk", "(II)I"⟩
abbrev cX8_roomOf : ByteArray := prog_1_method_10_code
def yX8_roomOf : MethodName := ⟨RX8, "roomOf", "(II)I"⟩
abbrev cX8_guardsIn : ByteArray := prog_1_method_11_code
def yX8_guardsIn : MethodName := ⟨RX8, "guardsIn", "(II)I"⟩
abbrev cX8_nextSeen : ByteArray := prog_1_method_12_code
def yX8_nextSeen : MethodName := ⟨RX8, "nextSeen", "(II)I"⟩
abbrev cX8_gapFrom : ByteArray := prog_1_method_13_code
def yX8_gapFrom : MethodName := ⟨RX8, "gapFrom", "(I)I"⟩
abbrev cX8_isJoined : ByteArray := prog_1_method_14_code
def yX8_isJoined : MethodName := ⟨RX8, "isJoined", "(II)Z"⟩
abbrev cX8_distance : ByteArray := prog_1_method_15_code
def yX8_distance : MethodName := ⟨RX8, "distance", "(II)I"⟩
abbrev cX8_meetings : ByteArray := prog_1_method_16_code
def yX8_meetings : MethodName := ⟨RX8, "meetings", "(II)I"⟩
abbrev cX8_passings : ByteArray := prog_1_method_17_code
def yX8_passings : MethodName := ⟨RX8, "passings", "(II)I"⟩
abbrev cX8_worstWith : ByteArray := prog_1_method_19_code
def yX8_worstWith : MethodName := ⟨RX8, "worstWith", "(II)I"⟩
abbrev cX8_bestWorst : ByteArray := prog_1_method_20_code
def yX8_bestWorst : MethodName := ⟨RX8, "bestWorst", "()I"⟩
abbrev cX8_bestCrossings : ByteArray := prog_1_method_21_code
def yX8_bestCrossings : MethodName := ⟨RX8, "bestCrossings", "()I"⟩
abbrev cX8_bestPhase : ByteArray := prog_1_method_22_code
def yX8_bestPhase : MethodName := ⟨RX8, "bestPhase", "(I)I"⟩
abbrev cX8_arrival : ByteArray := prog_1_method_23_code
def yX8_arrival : MethodName := ⟨RX8, "arrival", "(III)I"⟩
abbrev cX8_hiding : ByteArray := prog_1_method_24_code
def yX8_hiding : MethodName := ⟨RX8, "hiding", "(III)I"⟩
abbrev cX8_pass : ByteArray := prog_1_method_28_code
def yX8_pass : MethodName := ⟨RX8, "pass", "(I)I"⟩
abbrev cX8_shift : ByteArray := prog_1_method_29_code
def yX8_shift : MethodName := ⟨RX8, "shift", "(II)I"⟩
abbrev cX8_adopt : ByteArray := prog_1_method_30_code
def yX8_adopt : MethodName := ⟨RX8, "adopt", "()I"⟩
abbrev cX8_closeDoor : ByteArray := prog_1_method_31_code
def yX8_closeDoor : MethodName := ⟨RX8, "closeDoor", "(I)I"⟩
abbrev cX8_openDoor : ByteArray := prog_1_method_32_code
def yX8_openDoor : MethodName := ⟨RX8, "openDoor", "(I)I"⟩
abbrev cX8_setLimit : ByteArray := prog_1_method_33_code
def yX8_setLimit : MethodName := ⟨RX8, "setLimit", "(II)I"⟩
abbrev cX8_change : ByteArray := prog_1_method_34_code
def yX8_change : MethodName := ⟨RX8, "change", "(I)I"⟩
abbrev cX8_undoCount : ByteArray := prog_1_method_37_code
def yX8_undoCount : MethodName := ⟨RX8, "undoCount", "()I"⟩
abbrev cX8_undo : ByteArray := prog_1_method_38_code
def yX8_undo : MethodName := ⟨RX8, "undo", "()I"⟩
abbrev cX8_saveSnapshot : ByteArray := prog_1_method_39_code
def yX8_saveSnapshot : MethodName := ⟨RX8, "saveSnapshot", "()V"⟩
abbrev cX8_restoreSnapshot : ByteArray := prog_1_method_40_code
def yX8_restoreSnapshot : MethodName := ⟨RX8, "restoreSnapshot", "()Z"⟩
abbrev cX8_needRoom : ByteArray := prog_1_method_42_code
def yX8_needRoom : MethodName := ⟨RX8, "needRoom", "(I)V"⟩
abbrev cX8_needDoor : ByteArray := prog_1_method_43_code
def yX8_needDoor : MethodName := ⟨RX8, "needDoor", "(I)V"⟩
abbrev cX8_needGuard : ByteArray := prog_1_method_44_code
def yX8_needGuard : MethodName := ⟨RX8, "needGuard", "(I)V"⟩
abbrev cX8_needRange : ByteArray := prog_1_method_45_code
def yX8_needRange : MethodName := ⟨RX8, "needRange", "(III)V"⟩
abbrev cX8_needNotNegative : ByteArray := prog_1_method_46_code
def yX8_needNotNegative : MethodName := ⟨RX8, "needNotNegative", "(I)V"⟩
abbrev cX8_endReading : ByteArray := prog_1_method_47_code
def yX8_endReading : MethodName := ⟨RX8, "endReading", "(I)V"⟩
abbrev cX8_markPhasesChanged : ByteArray := prog_1_method_48_code
def yX8_markPhasesChanged : MethodName := ⟨RX8, "markPhasesChanged", "()V"⟩
abbrev cX8_markWalksChanged : ByteArray := prog_1_method_49_code
def yX8_markWalksChanged : MethodName := ⟨RX8, "markWalksChanged", "()V"⟩
abbrev cX8_measured : ByteArray := prog_1_method_50_code
def yX8_measured : MethodName := ⟨RX8, "measured", "()LGuardWalks$Sightings;"⟩
abbrev cX8_best : ByteArray := prog_1_method_51_code
def yX8_best : MethodName := ⟨RX8, "best", "()LGuardWalks$BestPhases;"⟩
abbrev cX8_has : ByteArray := prog_1_method_54_code
def yX8_has : MethodName := ⟨RX8, "has", "(II)Z"⟩
abbrev cX8_leastMultiple : ByteArray := prog_1_method_55_code
def yX8_leastMultiple : MethodName := ⟨RX8, "leastMultiple", "(II)I"⟩
def RX9 : String := "GuardWalksLaw$Own"
def TX9 : u_T := fun k => match k with
  | 0 => ("GuardWalksLaw$Own", "rooms", "I", false)
  | 1 => ("GuardWalksLaw$Own", "doors", "I", false)
  | 2 => ("GuardWalksLaw$Own", "guards", "I", false)
  | 3 => ("GuardWalksLaw$Own", "minute", "I", false)
  | 4 => ("GuardWalksLaw$Own", "door", "[[I", false)
  | 5 => ("GuardWalksLaw$Own", "room", "[[I", false)
  | 6 => ("GuardWalksLaw$Own", "walk", "[[I", false)
  | _ => ("GuardWalksLaw$Own", "phase", "[I", false)
def tyX9 : Nat → FieldType := fun k => match k with
  | 0 => .int
  | 1 => .int
  | 2 => .int
  | 3 => .int
  | 4 => .array (.array .int)
  | 5 => .array (.array .int)
  | 6 => .array (.array .int)
  | _ => .array .int
abbrev wsX90 : List Cond := u_ws RX9 TX9 8
theorem nmX9 : ∀ a, a < 8 → ∀ b, b < 8 → a ≠ b → (TX9 a).2.1 ≠ (TX9 b).2.1 := by decide +kernel
theorem tyX9_ok : ∀ k, k < 8 → parseFieldDescriptor (TX9 k).2.2.1 = some (tyX9 k) := by decide +kernel
abbrev cX9_init : ByteArray := prog_11_method_1_code
def yX9_init : MethodName := ⟨RX9, "<init>", "()V"⟩
abbrev cX9_copy : ByteArray := prog_11_method_2_code
def yX9_copy : MethodName := ⟨RX9, "copy", "()LGuardWalksLaw$Own;"⟩
abbrev cX9_open : ByteArray := prog_11_method_3_code
def yX9_open : MethodName := ⟨RX9, "open", "(II)I"⟩
abbrev cX9_opens : ByteArray := prog_11_method_4_code
def yX9_opens : MethodName := ⟨RX9, "opens", "(I)I"⟩
abbrev cX9_cycle : ByteArray := prog_11_method_5_code
def yX9_cycle : MethodName := ⟨RX9, "cycle", "()I"⟩
abbrev cX9_at : ByteArray := prog_11_method_6_code
def yX9_at : MethodName := ⟨RX9, "at", "(IJ)I"⟩
abbrev cX9_in : ByteArray := prog_11_method_7_code
def yX9_in : MethodName := ⟨RX9, "in", "(IJ)I"⟩
abbrev cX9_seen : ByteArray := prog_11_method_8_code
def yX9_seen : MethodName := ⟨RX9, "seen", "(I)I"⟩
abbrev cX9_gap : ByteArray := prog_11_method_9_code
def yX9_gap : MethodName := ⟨RX9, "gap", "(I)[I"⟩
abbrev cX9_late : ByteArray := prog_11_method_10_code
def yX9_late : MethodName := ⟨RX9, "late", "(I)Z"⟩
abbrev cX9_worst : ByteArray := prog_11_method_11_code
def yX9_worst : MethodName := ⟨RX9, "worst", "()I"⟩
abbrev cX9_lates : ByteArray := prog_11_method_12_code
def yX9_lates : MethodName := ⟨RX9, "lates", "()I"⟩
abbrev cX9_meets : ByteArray := prog_11_method_13_code
def yX9_meets : MethodName := ⟨RX9, "meets", "(II)I"⟩
abbrev cX9_passes : ByteArray := prog_11_method_14_code
def yX9_passes : MethodName := ⟨RX9, "passes", "(II)I"⟩
abbrev cX9_crossings : ByteArray := prog_11_method_15_code
def yX9_crossings : MethodName := ⟨RX9, "crossings", "()I"⟩
abbrev cX9_best : ByteArray := prog_11_method_16_code
def yX9_best : MethodName := ⟨RX9, "best", "()[I"⟩
abbrev cX9_pass : ByteArray := prog_11_method_21_code
def yX9_pass : MethodName := ⟨RX9, "pass", "(I)I"⟩
abbrev cX9_through : ByteArray := prog_11_method_22_code
def yX9_through : MethodName := ⟨RX9, "through", "(I)I"⟩
abbrev cX9_walkBy : ByteArray := prog_11_method_23_code
def yX9_walkBy : MethodName := ⟨RX9, "walkBy", "(I)[I"⟩
def RX10 : String := "GuardWalksModel"
def TX10 : u_T := fun k => match k with
  | _ => ("", "", "", false)
def tyX10 : Nat → FieldType := fun k => match k with
  | _ => .int
abbrev wsX100 : List Cond := u_ws RX10 TX10 0
theorem nmX10 : ∀ a, a < 0 → ∀ b, b < 0 → a ≠ b → (TX10 a).2.1 ≠ (TX10 b).2.1 := by decide +kernel
theorem tyX10_ok : ∀ k, k < 0 → parseFieldDescriptor (TX10 k).2.2.1 = some (tyX10 k) := by decide +kernel
def RJx145de : String := "java/io/Serializable"
def TJx145de : u_T := fun k => match k with
  | _ => ("", "", "", false)
def tyJx145de : Nat → FieldType := fun k => match k with
  | _ => .int
abbrev wsJx145de0 : List Cond := u_ws RJx145de TJx145de 0
theorem nmJx145de : ∀ a, a < 0 → ∀ b, b < 0 → a ≠ b → (TJx145de a).2.1 ≠ (TJx145de b).2.1 := by decide +kernel
theorem tyJx145de_ok : ∀ k, k < 0 → parseFieldDescriptor (TJx145de k).2.2.1 = some (tyJx145de k) := by decide +kernel
def RJx9f9b0 : String := "java/lang/CharSequence"
def TJx9f9b0 : u_T := fun k => match k with
  | _ => ("", "", "", false)
def tyJx9f9b0 : Nat → FieldType := fun k => match k with
  | _ => .int
abbrev wsJx9f9b00 : List Cond := u_ws RJx9f9b0 TJx9f9b0 0
theorem nmJx9f9b0 : ∀ a, a < 0 → ∀ b, b < 0 → a ≠ b → (TJx9f9b0 a).2.1 ≠ (TJx9f9b0 b).2.1 := by decide +kernel
theorem tyJx9f9b0_ok : ∀ k, k < 0 → parseFieldDescriptor (TJx9f9b0 k).2.2.1 = some (tyJx9f9b0 k) := by decide +kernel
def RJx8e188 : String := "java/lang/Cloneable"
def TJx8e188 : u_T := fun k => match k with
  | _ => ("", "", "", false)
def tyJx8e188 : Nat → FieldType := fun k => match k with
  | _ => .int
abbrev wsJx8e1880 : List Cond := u_ws RJx8e188 TJx8e188 0
theorem nmJx8e188 : ∀ a, a < 0 → ∀ b, b < 0 → a ≠ b → (TJx8e188 a).2.1 ≠ (TJx8e188 b).2.1 := by decide +kernel
theorem tyJx8e188_ok : ∀ k, k < 0 → parseFieldDescriptor (TJx8e188 k).2.2.1 = some (tyJx8e188 k) := by decide +kernel
def RJxb160c : String := "java/lang/Comparable"
def TJxb160c : u_T := fun k => match k with
  | _ => ("", "", "", false)
def tyJxb160c : Nat → FieldType := fun k => match k with
  | _ => .int
abbrev wsJxb160c0 : List Cond := u_ws RJxb160c TJxb160c 0
theorem nmJxb160c : ∀ a, a < 0 → ∀ b, b < 0 → a ≠ b → (TJxb160c a).2.1 ≠ (TJxb160c b).2.1 := by decide +kernel
theorem tyJxb160c_ok : ∀ k, k < 0 → parseFieldDescriptor (TJxb160c k).2.2.1 = some (tyJxb160c k) := by decide +kernel
def RJ6 : String := "java/lang/Integer"
def TJ6 : u_T := fun k => match k with
  | _ => ("", "", "", false)
def tyJ6 : Nat → FieldType := fun k => match k with
  | _ => .int
abbrev wsJ60 : List Cond := u_ws RJ6 TJ6 0
theorem nmJ6 : ∀ a, a < 0 → ∀ b, b < 0 → a ≠ b → (TJ6 a).2.1 ≠ (TJ6 b).2.1 := by decide +kernel
theorem tyJ6_ok : ∀ k, k < 0 → parseFieldDescriptor (TJ6 k).2.2.1 = some (tyJ6 k) := by decide +kernel
abbrev cJ6_bitCount_0f7a4 : ByteArray := prog_19_method_49_code
def yJ6_bitCount_0f7a4 : MethodName := ⟨RJ6, "bitCount", "(I)I"⟩
def RJ9 : String := "java/lang/Math"
def TJ9 : u_T := fun k => match k with
  | _ => ("", "", "", false)
def tyJ9 : Nat → FieldType := fun k => match k with
  | _ => .int
abbrev wsJ90 : List Cond := u_ws RJ9 TJ9 0
theorem nmJ9 : ∀ a, a < 0 → ∀ b, b < 0 → a ≠ b → (TJ9 a).2.1 ≠ (TJ9 b).2.1 := by decide +kernel
theorem tyJ9_ok : ∀ k, k < 0 → parseFieldDescriptor (TJ9 k).2.2.1 = some (tyJ9 k) := by decide +kernel
abbrev cJ9_max_7cf53 : ByteArray := prog_20_method_65_code
def yJ9_max_7cf53 : MethodName := ⟨RJ9, "max", "(II)I"⟩
abbrev cJ9_min_7cf53 : ByteArray := prog_20_method_69_code
def yJ9_min_7cf53 : MethodName := ⟨RJ9, "min", "(II)I"⟩
def RJ0 : String := "java/lang/String"
def TJ0 : u_T := fun k => match k with
  | _ => ("", "", "", false)
def tyJ0 : Nat → FieldType := fun k => match k with
  | _ => .int
abbrev wsJ00 : List Cond := u_ws RJ0 TJ0 0
theorem nmJ0 : ∀ a, a < 0 → ∀ b, b < 0 → a ≠ b → (TJ0 a).2.1 ≠ (TJ0 b).2.1 := by decide +kernel
theorem tyJ0_ok : ∀ k, k < 0 → parseFieldDescriptor (TJ0 k).2.2.1 = some (tyJ0 k) := by decide +kernel
abbrev cJ0_length_8abf5 : ByteArray := prog_22_method_54_code
def yJ0_length_8abf5 : MethodName := ⟨RJ0, "length", "()I"⟩
abbrev cJ0_charAt_5068e : ByteArray := prog_22_method_56_code
def yJ0_charAt_5068e : MethodName := ⟨RJ0, "charAt", "(I)C"⟩
abbrev cJ0_coder_7d493 : ByteArray := prog_22_method_152_code
def yJ0_coder_7d493 : MethodName := ⟨RJ0, "coder", "()B"⟩
abbrev cJ0_isLatin1_aae02 : ByteArray := prog_22_method_154_code
def yJ0_isLatin1_aae02 : MethodName := ⟨RJ0, "isLatin1", "()Z"⟩
abbrev cJ0_checkIndex_df160 : ByteArray := prog_22_method_155_code
def yJ0_checkIndex_df160 : MethodName := ⟨RJ0, "checkIndex", "(II)V"⟩
def RJ1 : String := "java/lang/StringLatin1"
def TJ1 : u_T := fun k => match k with
  | _ => ("", "", "", false)
def tyJ1 : Nat → FieldType := fun k => match k with
  | _ => .int
abbrev wsJ10 : List Cond := u_ws RJ1 TJ1 0
theorem nmJ1 : ∀ a, a < 0 → ∀ b, b < 0 → a ≠ b → (TJ1 a).2.1 ≠ (TJ1 b).2.1 := by decide +kernel
theorem tyJ1_ok : ∀ k, k < 0 → parseFieldDescriptor (TJ1 k).2.2.1 = some (tyJ1 k) := by decide +kernel
abbrev cJ1_charAt_3b067 : ByteArray := prog_23_method_2_code
def yJ1_charAt_3b067 : MethodName := ⟨RJ1, "charAt", "([BI)C"⟩
def RJ2 : String := "java/lang/StringUTF16"
def TJ2 : u_T := fun k => match k with
  | _ => ("", "", "", false)
def tyJ2 : Nat → FieldType := fun k => match k with
  | _ => .int
abbrev wsJ20 : List Cond := u_ws RJ2 TJ2 0
theorem nmJ2 : ∀ a, a < 0 → ∀ b, b < 0 → a ≠ b → (TJ2 a).2.1 ≠ (TJ2 b).2.1 := by decide +kernel
theorem tyJ2_ok : ∀ k, k < 0 → parseFieldDescriptor (TJ2 k).2.2.1 = some (tyJ2 k) := by decide +kernel
abbrev cJ2_getChar_3b067 : ByteArray := prog_24_method_5_code
def yJ2_getChar_3b067 : MethodName := ⟨RJ2, "getChar", "([BI)C"⟩
abbrev cJ2_length_9d52b : ByteArray := prog_24_method_6_code
def yJ2_length_9d52b : MethodName := ⟨RJ2, "length", "([B)I"⟩
abbrev cJ2_charAt_3b067 : ByteArray := prog_24_method_83_code
def yJ2_charAt_3b067 : MethodName := ⟨RJ2, "charAt", "([BI)C"⟩
abbrev cJ2_checkIndex_2214a : ByteArray := prog_24_method_91_code
def yJ2_checkIndex_2214a : MethodName := ⟨RJ2, "checkIndex", "(I[B)V"⟩
def RJ10 : String := "java/lang/System"
def TJ10 : u_T := fun k => match k with
  | _ => ("", "", "", false)
def tyJ10 : Nat → FieldType := fun k => match k with
  | _ => .int
abbrev wsJ100 : List Cond := u_ws RJ10 TJ10 0
theorem nmJ10 : ∀ a, a < 0 → ∀ b, b < 0 → a ≠ b → (TJ10 a).2.1 ≠ (TJ10 b).2.1 := by decide +kernel
theorem tyJ10_ok : ∀ k, k < 0 → parseFieldDescriptor (TJ10 k).2.2.1 = some (tyJ10 k) := by decide +kernel
def RJxfd54e : String := "java/lang/constant/Constable"
def TJxfd54e : u_T := fun k => match k with
  | _ => ("", "", "", false)
def tyJxfd54e : Nat → FieldType := fun k => match k with
  | _ => .int
abbrev wsJxfd54e0 : List Cond := u_ws RJxfd54e TJxfd54e 0
theorem nmJxfd54e : ∀ a, a < 0 → ∀ b, b < 0 → a ≠ b → (TJxfd54e a).2.1 ≠ (TJxfd54e b).2.1 := by decide +kernel
theorem tyJxfd54e_ok : ∀ k, k < 0 → parseFieldDescriptor (TJxfd54e k).2.2.1 = some (tyJxfd54e k) := by decide +kernel
def RJx3cf43 : String := "java/lang/constant/ConstantDesc"
def TJx3cf43 : u_T := fun k => match k with
  | _ => ("", "", "", false)
def tyJx3cf43 : Nat → FieldType := fun k => match k with
  | _ => .int
abbrev wsJx3cf430 : List Cond := u_ws RJx3cf43 TJx3cf43 0
theorem nmJx3cf43 : ∀ a, a < 0 → ∀ b, b < 0 → a ≠ b → (TJx3cf43 a).2.1 ≠ (TJx3cf43 b).2.1 := by decide +kernel
theorem tyJx3cf43_ok : ∀ k, k < 0 → parseFieldDescriptor (TJx3cf43 k).2.2.1 = some (tyJx3cf43 k) := by decide +kernel
def RJ7 : String := "java/util/Arrays"
def TJ7 : u_T := fun k => match k with
  | _ => ("", "", "", false)
def tyJ7 : Nat → FieldType := fun k => match k with
  | _ => .int
abbrev wsJ70 : List Cond := u_ws RJ7 TJ7 0
theorem nmJ7 : ∀ a, a < 0 → ∀ b, b < 0 → a ≠ b → (TJ7 a).2.1 ≠ (TJ7 b).2.1 := by decide +kernel
theorem tyJ7_ok : ∀ k, k < 0 → parseFieldDescriptor (TJ7 k).2.2.1 = some (tyJ7 k) := by decide +kernel
abbrev cJ7_fill_53178 : ByteArray := prog_29_method_103_code
def yJ7_fill_53178 : MethodName := ⟨RJ7, "fill", "([II)V"⟩
def RJ3 : String := "jdk/internal/util/Preconditions"
def TJ3 : u_T := fun k => match k with
  | _ => ("", "", "", false)
def tyJ3 : Nat → FieldType := fun k => match k with
  | _ => .int
abbrev wsJ30 : List Cond := u_ws RJ3 TJ3 0
theorem nmJ3 : ∀ a, a < 0 → ∀ b, b < 0 → a ≠ b → (TJ3 a).2.1 ≠ (TJ3 b).2.1 := by decide +kernel
theorem tyJ3_ok : ∀ k, k < 0 → parseFieldDescriptor (TJ3 k).2.2.1 = some (tyJ3 k) := by decide +kernel
abbrev cJ3_checkIndex_8e157 : ByteArray := prog_31_method_11_code
def yJ3_checkIndex_8e157 : MethodName := ⟨RJ3, "checkIndex", "(IILjava/util/function/BiFunction;)I"⟩
def RL : String := "GuardWalksLaw"
abbrev cL_most : ByteArray := method_2_code
def yL_most : MethodName := ⟨RL, "most", "(II)I"⟩
abbrev cL_cell : ByteArray := method_3_code
def yL_cell : MethodName := ⟨RL, "cell", "([II)I"⟩
abbrev cL_add : ByteArray := method_4_code
def yL_add : MethodName := ⟨RL, "add", "(LGuardWalks;[II)V"⟩
abbrev cL_number : ByteArray := method_6_code
def yL_number : MethodName := ⟨RL, "number", "(LGuardWalks;[II)V"⟩
abbrev cL_end : ByteArray := method_7_code
def yL_end : MethodName := ⟨RL, "end", "(LGuardWalks;[I)I"⟩
abbrev cL_drawn : ByteArray := method_8_code
def yL_drawn : MethodName := ⟨RL, "drawn", "([II)LGuardWalksLaw$Own;"⟩
abbrev cL_word : ByteArray := method_9_code
def yL_word : MethodName := ⟨RL, "word", "(LGuardWalks;[ILjava/lang/String;)V"⟩
abbrev cL_with : ByteArray := method_10_code
def yL_with : MethodName := ⟨RL, "with", "(LGuardWalks;[ILjava/lang/String;I)V"⟩
abbrev cL_walkOf : ByteArray := method_11_code
def yL_walkOf : MethodName := ⟨RL, "walkOf", "(LGuardWalks;[I[II)V"⟩
abbrev cL_tell : ByteArray := method_12_code
def yL_tell : MethodName := ⟨RL, "tell", "(LGuardWalks;[ILGuardWalksLaw$Own;)I"⟩
abbrev cL_act : ByteArray := method_14_code
def yL_act : MethodName := ⟨RL, "act", "(LGuardWalks;[ILGuardWalksLaw$Own;I)I"⟩
abbrev cL_all : ByteArray := method_15_code
def yL_all : MethodName := ⟨RL, "all", "(LGuardWalks;)J"⟩
abbrev cL_isSound : ByteArray := method_16_code
def yL_isSound : MethodName := ⟨RL, "isSound", "(LGuardWalks;I)Z"⟩
abbrev cL_isQuick : ByteArray := method_17_code
def yL_isQuick : MethodName := ⟨RL, "isQuick", "(LGuardWalks;I)Z"⟩
abbrev cL_isBest : ByteArray := method_18_code
def yL_isBest : MethodName := ⟨RL, "isBest", "(LGuardWalks;)Z"⟩
abbrev cL_isPassed : ByteArray := method_19_code
def yL_isPassed : MethodName := ⟨RL, "isPassed", "(LGuardWalks;)Z"⟩
abbrev cL_law : ByteArray := code
def yL_law : MethodName := ⟨RL, "law", "([I)Z"⟩
