/-! ===== BEGIN printed: names, fields, word lists, decode rows ===== -/
def RX0 : String := "EchoCanyon$1"
def TX0 : u_T := fun k => match k with
  | _ => ("", "", "", false)
def tyX0 : Nat → FieldType := fun k => match k with
  | _ => .int
abbrev wsX00 : List Cond := u_ws RX0 TX0 0
theorem nmX0 : ∀ a, a < 0 → ∀ b, b < 0 → a ≠ b → (TX0 a).2.1 ≠ (TX0 b).2.1 := by decide +kernel
theorem tyX0_ok : ∀ k, k < 0 → parseFieldDescriptor (TX0 k).2.2.1 = some (tyX0 k) := by decide +kernel
def RX1 : String := "EchoCanyon$Canyon"
def TX1 : u_T := fun k => match k with
  | 0 => ("EchoCanyon$Canyon", "walls", "LEchoCanyon$Walls;", true)
  | 1 => ("EchoCanyon$Canyon", "teams", "LEchoCanyon$Teams;", true)
  | 2 => ("EchoCanyon$Canyon", "players", "[LEchoCanyon$Player;", true)
  | 3 => ("EchoCanyon$Canyon", "playerCount", "I", false)
  | 4 => ("EchoCanyon$Canyon", "sounds", "[LEchoCanyon$Sound;", true)
  | 5 => ("EchoCanyon$Canyon", "soundCount", "I", false)
  | 6 => ("EchoCanyon$Canyon", "wind", "I", false)
  | 7 => ("EchoCanyon$Canyon", "beats", "I", false)
  | 8 => ("EchoCanyon$Canyon", "shouts", "I", false)
  | 9 => ("EchoCanyon$Canyon", "throwBacks", "I", false)
  | 10 => ("EchoCanyon$Canyon", "echoPoints", "I", false)
  | 11 => ("EchoCanyon$Canyon", "wallPoints", "I", false)
  | _ => ("EchoCanyon$Canyon", "paidPoints", "I", false)
def tyX1 : Nat → FieldType := fun k => match k with
  | 0 => .object "EchoCanyon$Walls"
  | 1 => .object "EchoCanyon$Teams"
  | 2 => .array (.object "EchoCanyon$Player")
  | 3 => .int
  | 4 => .array (.object "EchoCanyon$Sound")
  | 5 => .int
  | 6 => .int
  | 7 => .int
  | 8 => .int
  | 9 => .int
  | 10 => .int
  | 11 => .int
  | _ => .int
abbrev wsX10 : List Cond := u_ws RX1 TX1 13
theorem nmX1 : ∀ a, a < 13 → ∀ b, b < 13 → a ≠ b → (TX1 a).2.1 ≠ (TX1 b).2.1 := by decide +kernel
theorem tyX1_ok : ∀ k, k < 13 → parseFieldDescriptor (TX1 k).2.2.1 = some (tyX1 k) := by decide +kernel
abbrev cX1_init : ByteArray := prog_3_method_1_code
def yX1_init : MethodName := ⟨RX1, "<init>", "()V"⟩
abbrev cX1_take : ByteArray := prog_3_method_2_code
def yX1_take : MethodName := ⟨RX1, "take", "(LEchoCanyon$Canyon;)V"⟩
abbrev cX1_hasPlayer : ByteArray := prog_3_method_3_code
def yX1_hasPlayer : MethodName := ⟨RX1, "hasPlayer", "(I)Z"⟩
abbrev cX1_hasSound : ByteArray := prog_3_method_4_code
def yX1_hasSound : MethodName := ⟨RX1, "hasSound", "(I)Z"⟩
abbrev cX1_countPlayersOf : ByteArray := prog_3_method_5_code
def yX1_countPlayersOf : MethodName := ⟨RX1, "countPlayersOf", "(I)I"⟩
abbrev cX1_countPlayersAt : ByteArray := prog_3_method_6_code
def yX1_countPlayersAt : MethodName := ⟨RX1, "countPlayersAt", "(I)I"⟩
abbrev cX1_countSoundsOf : ByteArray := prog_3_method_7_code
def yX1_countSoundsOf : MethodName := ⟨RX1, "countSoundsOf", "(I)I"⟩
abbrev cX1_countSoundsAt : ByteArray := prog_3_method_8_code
def yX1_countSoundsAt : MethodName := ⟨RX1, "countSoundsAt", "(I)I"⟩
abbrev cX1_countEchoes : ByteArray := prog_3_method_9_code
def yX1_countEchoes : MethodName := ⟨RX1, "countEchoes", "()I"⟩
abbrev cX1_sumLoudness : ByteArray := prog_3_method_10_code
def yX1_sumLoudness : MethodName := ⟨RX1, "sumLoudness", "()I"⟩
abbrev cX1_echoSetAt : ByteArray := prog_3_method_11_code
def yX1_echoSetAt : MethodName := ⟨RX1, "echoSetAt", "(I)I"⟩
abbrev cX1_countSoundsAhead : ByteArray := prog_3_method_12_code
def yX1_countSoundsAhead : MethodName := ⟨RX1, "countSoundsAhead", "(I)I"⟩
abbrev cX1_isAhead : ByteArray := prog_3_method_13_code
def yX1_isAhead : MethodName := ⟨RX1, "isAhead", "(II)Z"⟩
abbrev cX1_isRefused : ByteArray := prog_3_method_14_code
def yX1_isRefused : MethodName := ⟨RX1, "isRefused", "(LEchoCanyon$Order;LEchoCanyon$Refusal;)Z"⟩
abbrev cX1_isWallRefused : ByteArray := prog_3_method_15_code
def yX1_isWallRefused : MethodName := ⟨RX1, "isWallRefused", "(IILEchoCanyon$Refusal;)Z"⟩
abbrev cX1_isPurchaseRefused : ByteArray := prog_3_method_16_code
def yX1_isPurchaseRefused : MethodName := ⟨RX1, "isPurchaseRefused", "(IILEchoCanyon$Refusal;)Z"⟩
abbrev cX1_isPlayerRefused : ByteArray := prog_3_method_17_code
def yX1_isPlayerRefused : MethodName := ⟨RX1, "isPlayerRefused", "(IILEchoCanyon$Refusal;)Z"⟩
abbrev cX1_isMoveRefused : ByteArray := prog_3_method_18_code
def yX1_isMoveRefused : MethodName := ⟨RX1, "isMoveRefused", "(IILEchoCanyon$Refusal;)Z"⟩
abbrev cX1_isShoutRefused : ByteArray := prog_3_method_19_code
def yX1_isShoutRefused : MethodName := ⟨RX1, "isShoutRefused", "(IILEchoCanyon$Refusal;)Z"⟩
abbrev cX1_isCatchRefused : ByteArray := prog_3_method_20_code
def yX1_isCatchRefused : MethodName := ⟨RX1, "isCatchRefused", "(ILEchoCanyon$Refusal;)Z"⟩
abbrev cX1_isWindRefused : ByteArray := prog_3_method_21_code
def yX1_isWindRefused : MethodName := ⟨RX1, "isWindRefused", "(ILEchoCanyon$Refusal;)Z"⟩
abbrev cX1_carryOut : ByteArray := prog_3_method_22_code
def yX1_carryOut : MethodName := ⟨RX1, "carryOut", "(LEchoCanyon$Order;)I"⟩
abbrev cX1_setWall : ByteArray := prog_3_method_23_code
def yX1_setWall : MethodName := ⟨RX1, "setWall", "(II)I"⟩
abbrev cX1_buyWall : ByteArray := prog_3_method_24_code
def yX1_buyWall : MethodName := ⟨RX1, "buyWall", "(II)I"⟩
abbrev cX1_addPlayer : ByteArray := prog_3_method_25_code
def yX1_addPlayer : MethodName := ⟨RX1, "addPlayer", "(II)I"⟩
abbrev cX1_movePlayer : ByteArray := prog_3_method_26_code
def yX1_movePlayer : MethodName := ⟨RX1, "movePlayer", "(II)I"⟩
abbrev cX1_addShout : ByteArray := prog_3_method_27_code
def yX1_addShout : MethodName := ⟨RX1, "addShout", "(IZI)I"⟩
abbrev cX1_passBeat : ByteArray := prog_3_method_28_code
def yX1_passBeat : MethodName := ⟨RX1, "passBeat", "()I"⟩
abbrev cX1_sendOn : ByteArray := prog_3_method_29_code
def yX1_sendOn : MethodName := ⟨RX1, "sendOn", "(LEchoCanyon$Sound;)V"⟩
abbrev cX1_restVoices : ByteArray := prog_3_method_30_code
def yX1_restVoices : MethodName := ⟨RX1, "restVoices", "()V"⟩
abbrev cX1_catchLoudest : ByteArray := prog_3_method_31_code
def yX1_catchLoudest : MethodName := ⟨RX1, "catchLoudest", "(I)I"⟩
abbrev cX1_loudestEchoAt : ByteArray := prog_3_method_32_code
def yX1_loudestEchoAt : MethodName := ⟨RX1, "loudestEchoAt", "(I)I"⟩
abbrev cX1_removeSound : ByteArray := prog_3_method_33_code
def yX1_removeSound : MethodName := ⟨RX1, "removeSound", "(I)V"⟩
abbrev cX1_setWind : ByteArray := prog_3_method_34_code
def yX1_setWind : MethodName := ⟨RX1, "setWind", "(I)I"⟩
def RX2 : String := "EchoCanyon$Command"
def TX2 : u_T := fun k => match k with
  | _ => ("", "", "", false)
def tyX2 : Nat → FieldType := fun k => match k with
  | _ => .int
abbrev wsX20 : List Cond := u_ws RX2 TX2 0
theorem nmX2 : ∀ a, a < 0 → ∀ b, b < 0 → a ≠ b → (TX2 a).2.1 ≠ (TX2 b).2.1 := by decide +kernel
theorem tyX2_ok : ∀ k, k < 0 → parseFieldDescriptor (TX2 k).2.2.1 = some (tyX2 k) := by decide +kernel
abbrev cX2_withLetter : ByteArray := prog_4_method_4_code
def yX2_withLetter : MethodName := ⟨RX2, "withLetter", "(C)LEchoCanyon$Command;"⟩
def RX3 : String := "EchoCanyon$History"
def TX3 : u_T := fun k => match k with
  | 0 => ("EchoCanyon$History", "kept", "[LEchoCanyon$Canyon;", true)
  | 1 => ("EchoCanyon$History", "next", "I", false)
  | _ => ("EchoCanyon$History", "count", "I", false)
def tyX3 : Nat → FieldType := fun k => match k with
  | 0 => .array (.object "EchoCanyon$Canyon")
  | 1 => .int
  | _ => .int
abbrev wsX30 : List Cond := u_ws RX3 TX3 3
theorem nmX3 : ∀ a, a < 3 → ∀ b, b < 3 → a ≠ b → (TX3 a).2.1 ≠ (TX3 b).2.1 := by decide +kernel
theorem tyX3_ok : ∀ k, k < 3 → parseFieldDescriptor (TX3 k).2.2.1 = some (tyX3 k) := by decide +kernel
abbrev cX3_init : ByteArray := prog_5_method_1_code
def yX3_init : MethodName := ⟨RX3, "<init>", "()V"⟩
abbrev cX3_keep : ByteArray := prog_5_method_2_code
def yX3_keep : MethodName := ⟨RX3, "keep", "(LEchoCanyon$Canyon;)V"⟩
abbrev cX3_giveBack : ByteArray := prog_5_method_3_code
def yX3_giveBack : MethodName := ⟨RX3, "giveBack", "(LEchoCanyon$Canyon;)V"⟩
abbrev cX3_forget : ByteArray := prog_5_method_4_code
def yX3_forget : MethodName := ⟨RX3, "forget", "()V"⟩
def RX4 : String := "EchoCanyon$Line"
def TX4 : u_T := fun k => match k with
  | 0 => ("EchoCanyon$Line", "characters", "[C", true)
  | _ => ("EchoCanyon$Line", "length", "I", false)
def tyX4 : Nat → FieldType := fun k => match k with
  | 0 => .array .char
  | _ => .int
abbrev wsX40 : List Cond := u_ws RX4 TX4 2
theorem nmX4 : ∀ a, a < 2 → ∀ b, b < 2 → a ≠ b → (TX4 a).2.1 ≠ (TX4 b).2.1 := by decide +kernel
theorem tyX4_ok : ∀ k, k < 2 → parseFieldDescriptor (TX4 k).2.2.1 = some (tyX4 k) := by decide +kernel
abbrev cX4_init : ByteArray := prog_6_method_1_code
def yX4_init : MethodName := ⟨RX4, "<init>", "()V"⟩
abbrev cX4_clear : ByteArray := prog_6_method_2_code
def yX4_clear : MethodName := ⟨RX4, "clear", "()V"⟩
abbrev cX4_put : ByteArray := prog_6_method_3_code
def yX4_put : MethodName := ⟨RX4, "put", "(C)V"⟩
abbrev cX4_putNumber : ByteArray := prog_6_method_4_code
def yX4_putNumber : MethodName := ⟨RX4, "putNumber", "(I)V"⟩
abbrev cX4_putTeam : ByteArray := prog_6_method_5_code
def yX4_putTeam : MethodName := ⟨RX4, "putTeam", "(I)V"⟩
def RX5 : String := "EchoCanyon$Order"
def TX5 : u_T := fun k => match k with
  | 0 => ("EchoCanyon$Order", "command", "LEchoCanyon$Command;", false)
  | 1 => ("EchoCanyon$Order", "first", "I", false)
  | 2 => ("EchoCanyon$Order", "second", "I", false)
  | 3 => ("EchoCanyon$Order", "isGreater", "Z", false)
  | _ => ("EchoCanyon$Order", "hasFirst", "Z", false)
def tyX5 : Nat → FieldType := fun k => match k with
  | 0 => .object "EchoCanyon$Command"
  | 1 => .int
  | 2 => .int
  | 3 => .boolean
  | _ => .boolean
abbrev wsX50 : List Cond := u_ws RX5 TX5 5
theorem nmX5 : ∀ a, a < 5 → ∀ b, b < 5 → a ≠ b → (TX5 a).2.1 ≠ (TX5 b).2.1 := by decide +kernel
theorem tyX5_ok : ∀ k, k < 5 → parseFieldDescriptor (TX5 k).2.2.1 = some (tyX5 k) := by decide +kernel
abbrev cX5_init : ByteArray := prog_7_method_1_code
def yX5_init : MethodName := ⟨RX5, "<init>", "()V"⟩
abbrev cX5_begin : ByteArray := prog_7_method_2_code
def yX5_begin : MethodName := ⟨RX5, "begin", "(LEchoCanyon$Command;)V"⟩
abbrev cX5_addNumber : ByteArray := prog_7_method_3_code
def yX5_addNumber : MethodName := ⟨RX5, "addNumber", "(I)V"⟩
def RX6 : String := "EchoCanyon$Player"
def TX6 : u_T := fun k => match k with
  | 0 => ("EchoCanyon$Player", "team", "I", false)
  | 1 => ("EchoCanyon$Player", "place", "I", false)
  | 2 => ("EchoCanyon$Player", "hoarseBeats", "I", false)
  | 3 => ("EchoCanyon$Player", "shouts", "I", false)
  | _ => ("EchoCanyon$Player", "catches", "I", false)
def tyX6 : Nat → FieldType := fun k => match k with
  | 0 => .int
  | 1 => .int
  | 2 => .int
  | 3 => .int
  | _ => .int
abbrev wsX60 : List Cond := u_ws RX6 TX6 5
theorem nmX6 : ∀ a, a < 5 → ∀ b, b < 5 → a ≠ b → (TX6 a).2.1 ≠ (TX6 b).2.1 := by decide +kernel
theorem tyX6_ok : ∀ k, k < 5 → parseFieldDescriptor (TX6 k).2.2.1 = some (tyX6 k) := by decide +kernel
abbrev cX6_init : ByteArray := prog_8_method_1_code
def yX6_init : MethodName := ⟨RX6, "<init>", "()V"⟩
abbrev cX6_take : ByteArray := prog_8_method_2_code
def yX6_take : MethodName := ⟨RX6, "take", "(LEchoCanyon$Player;)V"⟩
abbrev cX6_start : ByteArray := prog_8_method_3_code
def yX6_start : MethodName := ⟨RX6, "start", "(II)V"⟩
def RX7 : String := "EchoCanyon$Refusal"
def TX7 : u_T := fun k => match k with
  | 0 => ("EchoCanyon$Refusal", "reason", "I", false)
  | 1 => ("EchoCanyon$Refusal", "detail", "I", false)
  | _ => ("EchoCanyon$Refusal", "command", "I", false)
def tyX7 : Nat → FieldType := fun k => match k with
  | 0 => .int
  | 1 => .int
  | _ => .int
abbrev wsX70 : List Cond := u_ws RX7 TX7 3
theorem nmX7 : ∀ a, a < 3 → ∀ b, b < 3 → a ≠ b → (TX7 a).2.1 ≠ (TX7 b).2.1 := by decide +kernel
theorem tyX7_ok : ∀ k, k < 3 → parseFieldDescriptor (TX7 k).2.2.1 = some (tyX7 k) := by decide +kernel
abbrev cX7_init : ByteArray := prog_9_method_1_code
def yX7_init : MethodName := ⟨RX7, "<init>", "()V"⟩
abbrev cX7_tell : ByteArray := prog_9_method_2_code
def yX7_tell : MethodName := ⟨RX7, "tell", "(II)Z"⟩
def RX8 : String := "EchoCanyon$Sound"
def TX8 : u_T := fun k => match k with
  | 0 => ("EchoCanyon$Sound", "place", "I", false)
  | 1 => ("EchoCanyon$Sound", "isGreater", "Z", false)
  | 2 => ("EchoCanyon$Sound", "loudness", "I", false)
  | 3 => ("EchoCanyon$Sound", "team", "I", false)
  | _ => ("EchoCanyon$Sound", "throwBacks", "I", false)
def tyX8 : Nat → FieldType := fun k => match k with
  | 0 => .int
  | 1 => .boolean
  | 2 => .int
  | 3 => .int
  | _ => .int
abbrev wsX80 : List Cond := u_ws RX8 TX8 5
theorem nmX8 : ∀ a, a < 5 → ∀ b, b < 5 → a ≠ b → (TX8 a).2.1 ≠ (TX8 b).2.1 := by decide +kernel
theorem tyX8_ok : ∀ k, k < 5 → parseFieldDescriptor (TX8 k).2.2.1 = some (tyX8 k) := by decide +kernel
abbrev cX8_init : ByteArray := prog_10_method_1_code
def yX8_init : MethodName := ⟨RX8, "<init>", "()V"⟩
abbrev cX8_take : ByteArray := prog_10_method_2_code
def yX8_take : MethodName := ⟨RX8, "take", "(LEchoCanyon$Sound;)V"⟩
abbrev cX8_start : ByteArray := prog_10_method_3_code
def yX8_start : MethodName := ⟨RX8, "start", "(IZII)V"⟩
abbrev cX8_isGone : ByteArray := prog_10_method_4_code
def yX8_isGone : MethodName := ⟨RX8, "isGone", "()Z"⟩
abbrev cX8_wasThrownBack : ByteArray := prog_10_method_5_code
def yX8_wasThrownBack : MethodName := ⟨RX8, "wasThrownBack", "()Z"⟩
abbrev cX8_isEchoAt : ByteArray := prog_10_method_6_code
def yX8_isEchoAt : MethodName := ⟨RX8, "isEchoAt", "(I)Z"⟩
abbrev cX8_placeAhead : ByteArray := prog_10_method_7_code
def yX8_placeAhead : MethodName := ⟨RX8, "placeAhead", "()I"⟩
abbrev cX8_goOn : ByteArray := prog_10_method_8_code
def yX8_goOn : MethodName := ⟨RX8, "goOn", "(LEchoCanyon$Walls;I)V"⟩
abbrev cX8_lossIn : ByteArray := prog_10_method_9_code
def yX8_lossIn : MethodName := ⟨RX8, "lossIn", "(I)I"⟩
def RX9 : String := "EchoCanyon$Teams"
def TX9 : u_T := fun k => match k with
  | 0 => ("EchoCanyon$Teams", "points", "[I", true)
  | 1 => ("EchoCanyon$Teams", "catches", "[I", true)
  | _ => ("EchoCanyon$Teams", "interceptions", "[I", true)
def tyX9 : Nat → FieldType := fun k => match k with
  | 0 => .array .int
  | 1 => .array .int
  | _ => .array .int
abbrev wsX90 : List Cond := u_ws RX9 TX9 3
theorem nmX9 : ∀ a, a < 3 → ∀ b, b < 3 → a ≠ b → (TX9 a).2.1 ≠ (TX9 b).2.1 := by decide +kernel
theorem tyX9_ok : ∀ k, k < 3 → parseFieldDescriptor (TX9 k).2.2.1 = some (tyX9 k) := by decide +kernel
abbrev cX9_init : ByteArray := prog_11_method_1_code
def yX9_init : MethodName := ⟨RX9, "<init>", "()V"⟩
abbrev cX9_take : ByteArray := prog_11_method_2_code
def yX9_take : MethodName := ⟨RX9, "take", "(LEchoCanyon$Teams;)V"⟩
abbrev cX9_pointsOf : ByteArray := prog_11_method_3_code
def yX9_pointsOf : MethodName := ⟨RX9, "pointsOf", "(I)I"⟩
abbrev cX9_catchesOf : ByteArray := prog_11_method_4_code
def yX9_catchesOf : MethodName := ⟨RX9, "catchesOf", "(I)I"⟩
abbrev cX9_interceptionsOf : ByteArray := prog_11_method_5_code
def yX9_interceptionsOf : MethodName := ⟨RX9, "interceptionsOf", "(I)I"⟩
abbrev cX9_pointsOfAll : ByteArray := prog_11_method_6_code
def yX9_pointsOfAll : MethodName := ⟨RX9, "pointsOfAll", "()I"⟩
abbrev cX9_addPoints : ByteArray := prog_11_method_7_code
def yX9_addPoints : MethodName := ⟨RX9, "addPoints", "(II)V"⟩
abbrev cX9_countCatch : ByteArray := prog_11_method_8_code
def yX9_countCatch : MethodName := ⟨RX9, "countCatch", "(IZ)V"⟩
def RX10 : String := "EchoCanyon$Text"
def TX10 : u_T := fun k => match k with
  | 0 => ("EchoCanyon$Text", "characters", "[C", true)
  | 1 => ("EchoCanyon$Text", "length", "I", false)
  | 2 => ("EchoCanyon$Text", "position", "I", false)
  | 3 => ("EchoCanyon$Text", "commandsRead", "I", false)
  | _ => ("EchoCanyon$Text", "faultPosition", "I", false)
def tyX10 : Nat → FieldType := fun k => match k with
  | 0 => .array .char
  | 1 => .int
  | 2 => .int
  | 3 => .int
  | _ => .int
abbrev wsX100 : List Cond := u_ws RX10 TX10 5
theorem nmX10 : ∀ a, a < 5 → ∀ b, b < 5 → a ≠ b → (TX10 a).2.1 ≠ (TX10 b).2.1 := by decide +kernel
theorem tyX10_ok : ∀ k, k < 5 → parseFieldDescriptor (TX10 k).2.2.1 = some (tyX10 k) := by decide +kernel
abbrev cX10_init : ByteArray := prog_12_method_1_code
def yX10_init : MethodName := ⟨RX10, "<init>", "()V"⟩
abbrev cX10_add : ByteArray := prog_12_method_2_code
def yX10_add : MethodName := ⟨RX10, "add", "(C)V"⟩
abbrev cX10_clear : ByteArray := prog_12_method_3_code
def yX10_clear : MethodName := ⟨RX10, "clear", "()V"⟩
abbrev cX10_rewind : ByteArray := prog_12_method_4_code
def yX10_rewind : MethodName := ⟨RX10, "rewind", "()V"⟩
abbrev cX10_lookForFault : ByteArray := prog_12_method_5_code
def yX10_lookForFault : MethodName := ⟨RX10, "lookForFault", "(LEchoCanyon$Order;)V"⟩
abbrev cX10_readCommand : ByteArray := prog_12_method_6_code
def yX10_readCommand : MethodName := ⟨RX10, "readCommand", "(LEchoCanyon$Order;)Z"⟩
abbrev cX10_readPart : ByteArray := prog_12_method_7_code
def yX10_readPart : MethodName := ⟨RX10, "readPart", "(CLEchoCanyon$Order;)Z"⟩
abbrev cX10_readSign : ByteArray := prog_12_method_8_code
def yX10_readSign : MethodName := ⟨RX10, "readSign", "(LEchoCanyon$Order;)Z"⟩
abbrev cX10_readNumber : ByteArray := prog_12_method_9_code
def yX10_readNumber : MethodName := ⟨RX10, "readNumber", "(ILEchoCanyon$Order;)Z"⟩
abbrev cX10_isDigitNext : ByteArray := prog_12_method_10_code
def yX10_isDigitNext : MethodName := ⟨RX10, "isDigitNext", "()Z"⟩
abbrev cX10_skip : ByteArray := prog_12_method_11_code
def yX10_skip : MethodName := ⟨RX10, "skip", "(C)Z"⟩
def RX11 : String := "EchoCanyon$Walls"
def TX11 : u_T := fun k => match k with
  | 0 => ("EchoCanyon$Walls", "heights", "[I", true)
  | _ => ("EchoCanyon$Walls", "owners", "[I", true)
def tyX11 : Nat → FieldType := fun k => match k with
  | 0 => .array .int
  | _ => .array .int
abbrev wsX110 : List Cond := u_ws RX11 TX11 2
theorem nmX11 : ∀ a, a < 2 → ∀ b, b < 2 → a ≠ b → (TX11 a).2.1 ≠ (TX11 b).2.1 := by decide +kernel
theorem tyX11_ok : ∀ k, k < 2 → parseFieldDescriptor (TX11 k).2.2.1 = some (tyX11 k) := by decide +kernel
abbrev cX11_init : ByteArray := prog_13_method_1_code
def yX11_init : MethodName := ⟨RX11, "<init>", "()V"⟩
abbrev cX11_take : ByteArray := prog_13_method_2_code
def yX11_take : MethodName := ⟨RX11, "take", "(LEchoCanyon$Walls;)V"⟩
abbrev cX11_isAt : ByteArray := prog_13_method_3_code
def yX11_isAt : MethodName := ⟨RX11, "isAt", "(I)Z"⟩
abbrev cX11_heightAt : ByteArray := prog_13_method_4_code
def yX11_heightAt : MethodName := ⟨RX11, "heightAt", "(I)I"⟩
abbrev cX11_ownerAt : ByteArray := prog_13_method_5_code
def yX11_ownerAt : MethodName := ⟨RX11, "ownerAt", "(I)I"⟩
abbrev cX11_setHeight : ByteArray := prog_13_method_6_code
def yX11_setHeight : MethodName := ⟨RX11, "setHeight", "(II)V"⟩
abbrev cX11_setOwner : ByteArray := prog_13_method_7_code
def yX11_setOwner : MethodName := ⟨RX11, "setOwner", "(II)V"⟩
abbrev cX11_priceFor : ByteArray := prog_13_method_8_code
def yX11_priceFor : MethodName := ⟨RX11, "priceFor", "(II)I"⟩
abbrev cX11_count : ByteArray := prog_13_method_9_code
def yX11_count : MethodName := ⟨RX11, "count", "()I"⟩
abbrev cX11_countOf : ByteArray := prog_13_method_10_code
def yX11_countOf : MethodName := ⟨RX11, "countOf", "(I)I"⟩
abbrev cX11_heightsOf : ByteArray := prog_13_method_11_code
def yX11_heightsOf : MethodName := ⟨RX11, "heightsOf", "(I)I"⟩
def RX12 : String := "EchoCanyon"
def TX12 : u_T := fun k => match k with
  | 0 => ("EchoCanyon", "canyon", "LEchoCanyon$Canyon;", true)
  | 1 => ("EchoCanyon", "history", "LEchoCanyon$History;", true)
  | 2 => ("EchoCanyon", "snapshot", "LEchoCanyon$Canyon;", true)
  | 3 => ("EchoCanyon", "hasSnapshot", "Z", false)
  | 4 => ("EchoCanyon", "refusal", "LEchoCanyon$Refusal;", true)
  | 5 => ("EchoCanyon", "text", "LEchoCanyon$Text;", true)
  | 6 => ("EchoCanyon", "lineWritten", "LEchoCanyon$Line;", true)
  | 7 => ("EchoCanyon", "order", "LEchoCanyon$Order;", true)
  | 8 => ("EchoCanyon", "draft", "LEchoCanyon$Canyon;", true)
  | _ => ("EchoCanyon", "probe", "LEchoCanyon$Sound;", true)
def tyX12 : Nat → FieldType := fun k => match k with
  | 0 => .object "EchoCanyon$Canyon"
  | 1 => .object "EchoCanyon$History"
  | 2 => .object "EchoCanyon$Canyon"
  | 3 => .boolean
  | 4 => .object "EchoCanyon$Refusal"
  | 5 => .object "EchoCanyon$Text"
  | 6 => .object "EchoCanyon$Line"
  | 7 => .object "EchoCanyon$Order"
  | 8 => .object "EchoCanyon$Canyon"
  | _ => .object "EchoCanyon$Sound"
abbrev wsX120 : List Cond := u_ws RX12 TX12 10
theorem nmX12 : ∀ a, a < 10 → ∀ b, b < 10 → a ≠ b → (TX12 a).2.1 ≠ (TX12 b).2.1 := by decide +kernel
theorem tyX12_ok : ∀ k, k < 10 → parseFieldDescriptor (TX12 k).2.2.1 = some (tyX12 k) := by decide +kernel
abbrev cX12_init : ByteArray := prog_1_method_1_code
def yX12_init : MethodName := ⟨RX12, "<init>", "()V"⟩
abbrev cX12_wall : ByteArray := prog_1_method_2_code
def yX12_wall : MethodName := ⟨RX12, "wall", "(II)I"⟩
abbrev cX12_own : ByteArray := prog_1_method_3_code
def yX12_own : MethodName := ⟨RX12, "own", "(II)I"⟩
abbrev cX12_player : ByteArray := prog_1_method_4_code
def yX12_player : MethodName := ⟨RX12, "player", "(II)I"⟩
abbrev cX12_move : ByteArray := prog_1_method_5_code
def yX12_move : MethodName := ⟨RX12, "move", "(II)I"⟩
abbrev cX12_shout : ByteArray := prog_1_method_6_code
def yX12_shout : MethodName := ⟨RX12, "shout", "(IZI)I"⟩
abbrev cX12_beat : ByteArray := prog_1_method_7_code
def yX12_beat : MethodName := ⟨RX12, "beat", "()I"⟩
abbrev cX12_catchEcho : ByteArray := prog_1_method_8_code
def yX12_catchEcho : MethodName := ⟨RX12, "catchEcho", "(I)I"⟩
abbrev cX12_wind : ByteArray := prog_1_method_9_code
def yX12_wind : MethodName := ⟨RX12, "wind", "(I)I"⟩
abbrev cX12_change : ByteArray := prog_1_method_10_code
def yX12_change : MethodName := ⟨RX12, "change", "(LEchoCanyon$Command;IIZ)I"⟩
abbrev cX12_wallOf : ByteArray := prog_1_method_11_code
def yX12_wallOf : MethodName := ⟨RX12, "wallOf", "(IZ)I"⟩
abbrev cX12_teamOf : ByteArray := prog_1_method_12_code
def yX12_teamOf : MethodName := ⟨RX12, "teamOf", "(II)I"⟩
abbrev cX12_playerOf : ByteArray := prog_1_method_13_code
def yX12_playerOf : MethodName := ⟨RX12, "playerOf", "(II)I"⟩
abbrev cX12_soundOf : ByteArray := prog_1_method_14_code
def yX12_soundOf : MethodName := ⟨RX12, "soundOf", "(II)I"⟩
abbrev cX12_isEcho : ByteArray := prog_1_method_15_code
def yX12_isEcho : MethodName := ⟨RX12, "isEcho", "(I)Z"⟩
abbrev cX12_echoesAt : ByteArray := prog_1_method_16_code
def yX12_echoesAt : MethodName := ⟨RX12, "echoesAt", "(I)I"⟩
abbrev cX12_where : ByteArray := prog_1_method_17_code
def yX12_where : MethodName := ⟨RX12, "where", "(II)I"⟩
abbrev cX12_loudIn : ByteArray := prog_1_method_18_code
def yX12_loudIn : MethodName := ⟨RX12, "loudIn", "(II)I"⟩
abbrev cX12_goneIn : ByteArray := prog_1_method_19_code
def yX12_goneIn : MethodName := ⟨RX12, "goneIn", "(I)I"⟩
abbrev cX12_goneInAgain : ByteArray := prog_1_method_20_code
def yX12_goneInAgain : MethodName := ⟨RX12, "goneInAgain", "(I)I"⟩
abbrev cX12_comes : ByteArray := prog_1_method_21_code
def yX12_comes : MethodName := ⟨RX12, "comes", "(I)I"⟩
abbrev cX12_comesAgain : ByteArray := prog_1_method_22_code
def yX12_comesAgain : MethodName := ⟨RX12, "comesAgain", "(I)I"⟩
abbrev cX12_returns : ByteArray := prog_1_method_23_code
def yX12_returns : MethodName := ⟨RX12, "returns", "(IZI)I"⟩
abbrev cX12_bestLoudness : ByteArray := prog_1_method_24_code
def yX12_bestLoudness : MethodName := ⟨RX12, "bestLoudness", "(IZ)I"⟩
abbrev cX12_sendProbe : ByteArray := prog_1_method_25_code
def yX12_sendProbe : MethodName := ⟨RX12, "sendProbe", "(II)V"⟩
abbrev cX12_sendProbeTo : ByteArray := prog_1_method_26_code
def yX12_sendProbeTo : MethodName := ⟨RX12, "sendProbeTo", "(I)I"⟩
abbrev cX12_loudnessOfReturn : ByteArray := prog_1_method_27_code
def yX12_loudnessOfReturn : MethodName := ⟨RX12, "loudnessOfReturn", "(IZI)I"⟩
abbrev cX12_bestTeam : ByteArray := prog_1_method_28_code
def yX12_bestTeam : MethodName := ⟨RX12, "bestTeam", "(I)I"⟩
abbrev cX12_price : ByteArray := prog_1_method_29_code
def yX12_price : MethodName := ⟨RX12, "price", "(II)I"⟩
abbrev cX12_nextWall : ByteArray := prog_1_method_30_code
def yX12_nextWall : MethodName := ⟨RX12, "nextWall", "(IZ)I"⟩
abbrev cX12_ranked : ByteArray := prog_1_method_31_code
def yX12_ranked : MethodName := ⟨RX12, "ranked", "(II)I"⟩
abbrev cX12_countTeamsAhead : ByteArray := prog_1_method_32_code
def yX12_countTeamsAhead : MethodName := ⟨RX12, "countTeamsAhead", "(II)I"⟩
abbrev cX12_measureOf : ByteArray := prog_1_method_33_code
def yX12_measureOf : MethodName := ⟨RX12, "measureOf", "(II)I"⟩
abbrev cX12_loudest : ByteArray := prog_1_method_34_code
def yX12_loudest : MethodName := ⟨RX12, "loudest", "(I)I"⟩
abbrev cX12_isEven : ByteArray := prog_1_method_35_code
def yX12_isEven : MethodName := ⟨RX12, "isEven", "()Z"⟩
abbrev cX12_append : ByteArray := prog_1_method_36_code
def yX12_append : MethodName := ⟨RX12, "append", "(C)I"⟩
abbrev cX12_commands : ByteArray := prog_1_method_37_code
def yX12_commands : MethodName := ⟨RX12, "commands", "()I"⟩
abbrev cX12_isRefusedInDraft : ByteArray := prog_1_method_38_code
def yX12_isRefusedInDraft : MethodName := ⟨RX12, "isRefusedInDraft", "()Z"⟩
abbrev cX12_line : ByteArray := prog_1_method_41_code
def yX12_line : MethodName := ⟨RX12, "line", "()I"⟩
abbrev cX12_meanLoudness : ByteArray := prog_1_method_44_code
def yX12_meanLoudness : MethodName := ⟨RX12, "meanLoudness", "()D"⟩
abbrev cX12_echoShare : ByteArray := prog_1_method_45_code
def yX12_echoShare : MethodName := ⟨RX12, "echoShare", "()F"⟩
abbrev cX12_account : ByteArray := prog_1_method_46_code
def yX12_account : MethodName := ⟨RX12, "account", "(I)I"⟩
abbrev cX12_undo : ByteArray := prog_1_method_47_code
def yX12_undo : MethodName := ⟨RX12, "undo", "()I"⟩
abbrev cX12_save : ByteArray := prog_1_method_48_code
def yX12_save : MethodName := ⟨RX12, "save", "()I"⟩
abbrev cX12_restore : ByteArray := prog_1_method_49_code
def yX12_restore : MethodName := ⟨RX12, "restore", "()I"⟩
abbrev cX12_isWithin : ByteArray := prog_1_method_50_code
def yX12_isWithin : MethodName := ⟨RX12, "isWithin", "(III)Z"⟩
abbrev cX12_isPlace : ByteArray := prog_1_method_51_code
def yX12_isPlace : MethodName := ⟨RX12, "isPlace", "(I)Z"⟩
abbrev cX12_isTeam : ByteArray := prog_1_method_52_code
def yX12_isTeam : MethodName := ⟨RX12, "isTeam", "(I)Z"⟩
abbrev cX12_checkPlace : ByteArray := prog_1_method_53_code
def yX12_checkPlace : MethodName := ⟨RX12, "checkPlace", "(I)V"⟩
abbrev cX12_checkTeam : ByteArray := prog_1_method_54_code
def yX12_checkTeam : MethodName := ⟨RX12, "checkTeam", "(I)V"⟩
abbrev cX12_checkPlayer : ByteArray := prog_1_method_55_code
def yX12_checkPlayer : MethodName := ⟨RX12, "checkPlayer", "(I)V"⟩
abbrev cX12_checkSound : ByteArray := prog_1_method_56_code
def yX12_checkSound : MethodName := ⟨RX12, "checkSound", "(I)V"⟩
abbrev cX12_checkBeatsAhead : ByteArray := prog_1_method_57_code
def yX12_checkBeatsAhead : MethodName := ⟨RX12, "checkBeatsAhead", "(I)V"⟩
def RX13 : String := "EchoCanyonModel"
def TX13 : u_T := fun k => match k with
  | _ => ("", "", "", false)
def tyX13 : Nat → FieldType := fun k => match k with
  | _ => .int
abbrev wsX130 : List Cond := u_ws RX13 TX13 0
theorem nmX13 : ∀ a, a < 0 → ∀ b, b < 0 → a ≠ b → (TX13 a).2.1 ≠ (TX13 b).2.1 := by decide +kernel
theorem tyX13_ok : ∀ k, k < 0 → parseFieldDescriptor (TX13 k).2.2.1 = some (tyX13 k) := by decide +kernel
def RJx145de : String := "java/io/Serializable"
def TJx145de : u_T := fun k => match k with
  | _ => ("", "", "", false)
def tyJx145de : Nat → FieldType := fun k => match k with
  | _ => .int
abbrev wsJx145de0 : List Cond := u_ws RJx145de TJx145de 0
theorem nmJx145de : ∀ a, a < 0 → ∀ b, b < 0 → a ≠ b → (TJx145de a).2.1 ≠ (TJx145de b).2.1 := by decide +kernel
theorem tyJx145de_ok : ∀ k, k < 0 → parseFieldDescriptor (TJx145de k).2.2.1 = some (tyJx145de k) := by decide +kernel
def RJ5 : String := "java/lang/AbstractStringBuilder"
def TJ5 : u_T := fun k => match k with
  | _ => ("", "", "", false)
def tyJ5 : Nat → FieldType := fun k => match k with
  | _ => .int
abbrev wsJ50 : List Cond := u_ws RJ5 TJ5 0
theorem nmJ5 : ∀ a, a < 0 → ∀ b, b < 0 → a ≠ b → (TJ5 a).2.1 ≠ (TJ5 b).2.1 := by decide +kernel
theorem tyJ5_ok : ∀ k, k < 0 → parseFieldDescriptor (TJ5 k).2.2.1 = some (tyJ5 k) := by decide +kernel
abbrev cJ5_init_d00df : ByteArray := prog_17_method_2_code
def yJ5_init_d00df : MethodName := ⟨RJ5, "<init>", "(I)V"⟩
abbrev cJ5_length_8abf5 : ByteArray := prog_17_method_6_code
def yJ5_length_8abf5 : MethodName := ⟨RJ5, "length", "()I"⟩
abbrev cJ5_ensureCapacityInternal_d00df : ByteArray := prog_17_method_9_code
def yJ5_ensureCapacityInternal_d00df : MethodName := ⟨RJ5, "ensureCapacityInternal", "(I)V"⟩
abbrev cJ5_newCapacity_0f7a4 : ByteArray := prog_17_method_10_code
def yJ5_newCapacity_0f7a4 : MethodName := ⟨RJ5, "newCapacity", "(I)I"⟩
abbrev cJ5_inflate_da8c8 : ByteArray := prog_17_method_11_code
def yJ5_inflate_da8c8 : MethodName := ⟨RJ5, "inflate", "()V"⟩
abbrev cJ5_append_cf1ce : ByteArray := prog_17_method_22_code
def yJ5_append_cf1ce : MethodName := ⟨RJ5, "append", "(Ljava/lang/String;)Ljava/lang/AbstractStringBuilder;"⟩
abbrev cJ5_appendNull_278bc : ByteArray := prog_17_method_26_code
def yJ5_appendNull_278bc : MethodName := ⟨RJ5, "appendNull", "()Ljava/lang/AbstractStringBuilder;"⟩
abbrev cJ5_append_c97b9 : ByteArray := prog_17_method_32_code
def yJ5_append_c97b9 : MethodName := ⟨RJ5, "append", "(I)Ljava/lang/AbstractStringBuilder;"⟩
abbrev cJ5_getValue_6d5f1 : ByteArray := prog_17_method_64_code
def yJ5_getValue_6d5f1 : MethodName := ⟨RJ5, "getValue", "()[B"⟩
abbrev cJ5_isLatin1_aae02 : ByteArray := prog_17_method_68_code
def yJ5_isLatin1_aae02 : MethodName := ⟨RJ5, "isLatin1", "()Z"⟩
abbrev cJ5_inflateIfNeededFor_a7421 : ByteArray := prog_17_method_71_code
def yJ5_inflateIfNeededFor_a7421 : MethodName := ⟨RJ5, "inflateIfNeededFor", "(Ljava/lang/String;)V"⟩
abbrev cJ5_putStringAt_47b60 : ByteArray := prog_17_method_73_code
def yJ5_putStringAt_47b60 : MethodName := ⟨RJ5, "putStringAt", "(ILjava/lang/String;)V"⟩
def RJx2cfe8 : String := "java/lang/Appendable"
def TJx2cfe8 : u_T := fun k => match k with
  | _ => ("", "", "", false)
def tyJx2cfe8 : Nat → FieldType := fun k => match k with
  | _ => .int
abbrev wsJx2cfe80 : List Cond := u_ws RJx2cfe8 TJx2cfe8 0
theorem nmJx2cfe8 : ∀ a, a < 0 → ∀ b, b < 0 → a ≠ b → (TJx2cfe8 a).2.1 ≠ (TJx2cfe8 b).2.1 := by decide +kernel
theorem tyJx2cfe8_ok : ∀ k, k < 0 → parseFieldDescriptor (TJx2cfe8 k).2.2.1 = some (tyJx2cfe8 k) := by decide +kernel
def RJx00060 : String := "java/lang/ArrayIndexOutOfBoundsException"
def TJx00060 : u_T := fun k => match k with
  | 0 => ("java/lang/Throwable", "backtrace", "Ljava/lang/Object;", false)
  | 1 => ("java/lang/Throwable", "detailMessage", "Ljava/lang/String;", false)
  | 2 => ("java/lang/Throwable", "cause", "Ljava/lang/Throwable;", false)
  | 3 => ("java/lang/Throwable", "stackTrace", "[Ljava/lang/StackTraceElement;", false)
  | 4 => ("java/lang/Throwable", "depth", "I", false)
  | _ => ("java/lang/Throwable", "suppressedExceptions", "Ljava/util/List;", false)
def tyJx00060 : Nat → FieldType := fun k => match k with
  | 0 => .object "java/lang/Object"
  | 1 => .object "java/lang/String"
  | 2 => .object "java/lang/Throwable"
  | 3 => .array (.object "java/lang/StackTraceElement")
  | 4 => .int
  | _ => .object "java/util/List"
abbrev wsJx000600 : List Cond := u_ws RJx00060 TJx00060 6
theorem nmJx00060 : ∀ a, a < 6 → ∀ b, b < 6 → a ≠ b → (TJx00060 a).2.1 ≠ (TJx00060 b).2.1 := by decide +kernel
theorem tyJx00060_ok : ∀ k, k < 6 → parseFieldDescriptor (TJx00060 k).2.2.1 = some (tyJx00060 k) := by decide +kernel
abbrev cJx00060_init_a7421 : ByteArray := prog_20_method_2_code
def yJx00060_init_a7421 : MethodName := ⟨RJx00060, "<init>", "(Ljava/lang/String;)V"⟩
def RJx9f9b0 : String := "java/lang/CharSequence"
def TJx9f9b0 : u_T := fun k => match k with
  | _ => ("", "", "", false)
def tyJx9f9b0 : Nat → FieldType := fun k => match k with
  | _ => .int
abbrev wsJx9f9b00 : List Cond := u_ws RJx9f9b0 TJx9f9b0 0
theorem nmJx9f9b0 : ∀ a, a < 0 → ∀ b, b < 0 → a ≠ b → (TJx9f9b0 a).2.1 ≠ (TJx9f9b0 b).2.1 := by decide +kernel
theorem tyJx9f9b0_ok : ∀ k, k < 0 → parseFieldDescriptor (TJx9f9b0 k).2.2.1 = some (tyJx9f9b0 k) := by decide +kernel
def RJx8e188 : String := "java/lang/Cloneable"
def TJx8e188 : u_T := fun k => match k with
  | _ => ("", "", "", false)
def tyJx8e188 : Nat → FieldType := fun k => match k with
  | _ => .int
abbrev wsJx8e1880 : List Cond := u_ws RJx8e188 TJx8e188 0
theorem nmJx8e188 : ∀ a, a < 0 → ∀ b, b < 0 → a ≠ b → (TJx8e188 a).2.1 ≠ (TJx8e188 b).2.1 := by decide +kernel
theorem tyJx8e188_ok : ∀ k, k < 0 → parseFieldDescriptor (TJx8e188 k).2.2.1 = some (tyJx8e188 k) := by decide +kernel
def RJxb160c : String := "java/lang/Comparable"
def TJxb160c : u_T := fun k => match k with
  | _ => ("", "", "", false)
def tyJxb160c : Nat → FieldType := fun k => match k with
  | _ => .int
abbrev wsJxb160c0 : List Cond := u_ws RJxb160c TJxb160c 0
theorem nmJxb160c : ∀ a, a < 0 → ∀ b, b < 0 → a ≠ b → (TJxb160c a).2.1 ≠ (TJxb160c b).2.1 := by decide +kernel
theorem tyJxb160c_ok : ∀ k, k < 0 → parseFieldDescriptor (TJxb160c k).2.2.1 = some (tyJxb160c k) := by decide +kernel
def RJx29ce0 : String := "java/lang/Enum"
def TJx29ce0 : u_T := fun k => match k with
  | _ => ("", "", "", false)
def tyJx29ce0 : Nat → FieldType := fun k => match k with
  | _ => .int
abbrev wsJx29ce00 : List Cond := u_ws RJx29ce0 TJx29ce0 0
theorem nmJx29ce0 : ∀ a, a < 0 → ∀ b, b < 0 → a ≠ b → (TJx29ce0 a).2.1 ≠ (TJx29ce0 b).2.1 := by decide +kernel
theorem tyJx29ce0_ok : ∀ k, k < 0 → parseFieldDescriptor (TJx29ce0 k).2.2.1 = some (tyJx29ce0 k) := by decide +kernel
abbrev cJx29ce0_ordinal_8abf5 : ByteArray := prog_24_method_2_code
def yJx29ce0_ordinal_8abf5 : MethodName := ⟨RJx29ce0, "ordinal", "()I"⟩
def RJ6 : String := "java/lang/Integer"
def TJ6 : u_T := fun k => match k with
  | _ => ("", "", "", false)
def tyJ6 : Nat → FieldType := fun k => match k with
  | _ => .int
abbrev wsJ60 : List Cond := u_ws RJ6 TJ6 0
theorem nmJ6 : ∀ a, a < 0 → ∀ b, b < 0 → a ≠ b → (TJ6 a).2.1 ≠ (TJ6 b).2.1 := by decide +kernel
theorem tyJ6_ok : ∀ k, k < 0 → parseFieldDescriptor (TJ6 k).2.2.1 = some (tyJ6 k) := by decide +kernel
abbrev cJ6_getChars_ba4f3 : ByteArray := prog_29_method_12_code
def yJ6_getChars_ba4f3 : MethodName := ⟨RJ6, "getChars", "(II[B)I"⟩
abbrev cJ6_stringSize_0f7a4 : ByteArray := prog_29_method_13_code
def yJ6_stringSize_0f7a4 : MethodName := ⟨RJ6, "stringSize", "(I)I"⟩
abbrev cJ6_bitCount_0f7a4 : ByteArray := prog_29_method_49_code
def yJ6_bitCount_0f7a4 : MethodName := ⟨RJ6, "bitCount", "(I)I"⟩
def RJ9 : String := "java/lang/Math"
def TJ9 : u_T := fun k => match k with
  | _ => ("", "", "", false)
def tyJ9 : Nat → FieldType := fun k => match k with
  | _ => .int
abbrev wsJ90 : List Cond := u_ws RJ9 TJ9 0
theorem nmJ9 : ∀ a, a < 0 → ∀ b, b < 0 → a ≠ b → (TJ9 a).2.1 ≠ (TJ9 b).2.1 := by decide +kernel
theorem tyJ9_ok : ∀ k, k < 0 → parseFieldDescriptor (TJ9 k).2.2.1 = some (tyJ9 k) := by decide +kernel
abbrev cJ9_abs_0f7a4 : ByteArray := prog_30_method_59_code
def yJ9_abs_0f7a4 : MethodName := ⟨RJ9, "abs", "(I)I"⟩
abbrev cJ9_max_7cf53 : ByteArray := prog_30_method_65_code
def yJ9_max_7cf53 : MethodName := ⟨RJ9, "max", "(II)I"⟩
abbrev cJ9_min_7cf53 : ByteArray := prog_30_method_69_code
def yJ9_min_7cf53 : MethodName := ⟨RJ9, "min", "(II)I"⟩
def RJxd2413 : String := "java/lang/Number"
def TJxd2413 : u_T := fun k => match k with
  | _ => ("", "", "", false)
def tyJxd2413 : Nat → FieldType := fun k => match k with
  | _ => .int
abbrev wsJxd24130 : List Cond := u_ws RJxd2413 TJxd2413 0
theorem nmJxd2413 : ∀ a, a < 0 → ∀ b, b < 0 → a ≠ b → (TJxd2413 a).2.1 ≠ (TJxd2413 b).2.1 := by decide +kernel
theorem tyJxd2413_ok : ∀ k, k < 0 → parseFieldDescriptor (TJxd2413 k).2.2.1 = some (tyJxd2413 k) := by decide +kernel
def RJ0 : String := "java/lang/String"
def TJ0 : u_T := fun k => match k with
  | 0 => ("java/lang/String", "value", "[B", true)
  | 1 => ("java/lang/String", "coder", "B", true)
  | 2 => ("java/lang/String", "hash", "I", false)
  | _ => ("java/lang/String", "hashIsZero", "Z", false)
def tyJ0 : Nat → FieldType := fun k => match k with
  | 0 => .array .byte
  | 1 => .byte
  | 2 => .int
  | _ => .boolean
abbrev wsJ00 : List Cond := u_ws RJ0 TJ0 4
theorem nmJ0 : ∀ a, a < 4 → ∀ b, b < 4 → a ≠ b → (TJ0 a).2.1 ≠ (TJ0 b).2.1 := by decide +kernel
theorem tyJ0_ok : ∀ k, k < 4 → parseFieldDescriptor (TJ0 k).2.2.1 = some (tyJ0 k) := by decide +kernel
abbrev cJ0_init_81219 : ByteArray := prog_33_method_53_code
def yJ0_init_81219 : MethodName := ⟨RJ0, "<init>", "(Ljava/lang/StringBuilder;)V"⟩
abbrev cJ0_length_8abf5 : ByteArray := prog_33_method_54_code
def yJ0_length_8abf5 : MethodName := ⟨RJ0, "length", "()I"⟩
abbrev cJ0_charAt_5068e : ByteArray := prog_33_method_56_code
def yJ0_charAt_5068e : MethodName := ⟨RJ0, "charAt", "(I)C"⟩
abbrev cJ0_getBytes_840e7 : ByteArray := prog_33_method_147_code
def yJ0_getBytes_840e7 : MethodName := ⟨RJ0, "getBytes", "([BIB)V"⟩
abbrev cJ0_init_db425 : ByteArray := prog_33_method_150_code
def yJ0_init_db425 : MethodName := ⟨RJ0, "<init>", "(Ljava/lang/AbstractStringBuilder;Ljava/lang/Void;)V"⟩
abbrev cJ0_coder_7d493 : ByteArray := prog_33_method_152_code
def yJ0_coder_7d493 : MethodName := ⟨RJ0, "coder", "()B"⟩
abbrev cJ0_isLatin1_aae02 : ByteArray := prog_33_method_154_code
def yJ0_isLatin1_aae02 : MethodName := ⟨RJ0, "isLatin1", "()Z"⟩
abbrev cJ0_checkIndex_df160 : ByteArray := prog_33_method_155_code
def yJ0_checkIndex_df160 : MethodName := ⟨RJ0, "checkIndex", "(II)V"⟩
abbrev cJ0_checkBoundsOffCount_cabcc : ByteArray := prog_33_method_157_code
def yJ0_checkBoundsOffCount_cabcc : MethodName := ⟨RJ0, "checkBoundsOffCount", "(III)I"⟩
abbrev cJ0_checkBoundsBeginEnd_23922 : ByteArray := prog_33_method_158_code
def yJ0_checkBoundsBeginEnd_23922 : MethodName := ⟨RJ0, "checkBoundsBeginEnd", "(III)V"⟩
def RJ4 : String := "java/lang/StringBuilder"
def TJ4 : u_T := fun k => match k with
  | 0 => ("java/lang/AbstractStringBuilder", "value", "[B", false)
  | 1 => ("java/lang/AbstractStringBuilder", "coder", "B", false)
  | 2 => ("java/lang/AbstractStringBuilder", "maybeLatin1", "Z", false)
  | _ => ("java/lang/AbstractStringBuilder", "count", "I", false)
def tyJ4 : Nat → FieldType := fun k => match k with
  | 0 => .array .byte
  | 1 => .byte
  | 2 => .boolean
  | _ => .int
abbrev wsJ40 : List Cond := u_ws RJ4 TJ4 4
theorem nmJ4 : ∀ a, a < 4 → ∀ b, b < 4 → a ≠ b → (TJ4 a).2.1 ≠ (TJ4 b).2.1 := by decide +kernel
theorem tyJ4_ok : ∀ k, k < 4 → parseFieldDescriptor (TJ4 k).2.2.1 = some (tyJ4 k) := by decide +kernel
abbrev cJ4_init_da8c8 : ByteArray := prog_34_method_1_code
def yJ4_init_da8c8 : MethodName := ⟨RJ4, "<init>", "()V"⟩
abbrev cJ4_append_15ec4 : ByteArray := prog_34_method_7_code
def yJ4_append_15ec4 : MethodName := ⟨RJ4, "append", "(Ljava/lang/String;)Ljava/lang/StringBuilder;"⟩
abbrev cJ4_append_bf812 : ByteArray := prog_34_method_15_code
def yJ4_append_bf812 : MethodName := ⟨RJ4, "append", "(I)Ljava/lang/StringBuilder;"⟩
abbrev cJ4_toString_0e30d : ByteArray := prog_34_method_42_code
def yJ4_toString_0e30d : MethodName := ⟨RJ4, "toString", "()Ljava/lang/String;"⟩
abbrev cJ4_length_8abf5 : ByteArray := prog_34_method_93_code
def yJ4_length_8abf5 : MethodName := ⟨RJ4, "length", "()I"⟩
def RJ1 : String := "java/lang/StringLatin1"
def TJ1 : u_T := fun k => match k with
  | _ => ("", "", "", false)
def tyJ1 : Nat → FieldType := fun k => match k with
  | _ => .int
abbrev wsJ10 : List Cond := u_ws RJ1 TJ1 0
theorem nmJ1 : ∀ a, a < 0 → ∀ b, b < 0 → a ≠ b → (TJ1 a).2.1 ≠ (TJ1 b).2.1 := by decide +kernel
theorem tyJ1_ok : ∀ k, k < 0 → parseFieldDescriptor (TJ1 k).2.2.1 = some (tyJ1 k) := by decide +kernel
abbrev cJ1_charAt_3b067 : ByteArray := prog_35_method_2_code
def yJ1_charAt_3b067 : MethodName := ⟨RJ1, "charAt", "([BI)C"⟩
abbrev cJ1_inflate_0e8fd : ByteArray := prog_35_method_50_code
def yJ1_inflate_0e8fd : MethodName := ⟨RJ1, "inflate", "([BI[BII)V"⟩
def RJ2 : String := "java/lang/StringUTF16"
def TJ2 : u_T := fun k => match k with
  | _ => ("", "", "", false)
def tyJ2 : Nat → FieldType := fun k => match k with
  | _ => .int
abbrev wsJ20 : List Cond := u_ws RJ2 TJ2 0
theorem nmJ2 : ∀ a, a < 0 → ∀ b, b < 0 → a ≠ b → (TJ2 a).2.1 ≠ (TJ2 b).2.1 := by decide +kernel
theorem tyJ2_ok : ∀ k, k < 0 → parseFieldDescriptor (TJ2 k).2.2.1 = some (tyJ2 k) := by decide +kernel
abbrev cJ2_newBytesFor_77867 : ByteArray := prog_36_method_2_code
def yJ2_newBytesFor_77867 : MethodName := ⟨RJ2, "newBytesFor", "(I)[B"⟩
abbrev cJ2_newBytesLength_0f7a4 : ByteArray := prog_36_method_3_code
def yJ2_newBytesLength_0f7a4 : MethodName := ⟨RJ2, "newBytesLength", "(I)I"⟩
abbrev cJ2_putChar_b72d1 : ByteArray := prog_36_method_4_code
def yJ2_putChar_b72d1 : MethodName := ⟨RJ2, "putChar", "([BII)V"⟩
abbrev cJ2_getChar_3b067 : ByteArray := prog_36_method_5_code
def yJ2_getChar_3b067 : MethodName := ⟨RJ2, "getChar", "([BI)C"⟩
abbrev cJ2_length_9d52b : ByteArray := prog_36_method_6_code
def yJ2_length_9d52b : MethodName := ⟨RJ2, "length", "([B)I"⟩
abbrev cJ2_coderFromArrayLen_85cad : ByteArray := prog_36_method_15_code
def yJ2_coderFromArrayLen_85cad : MethodName := ⟨RJ2, "coderFromArrayLen", "([BI)B"⟩
abbrev cJ2_compress_39247 : ByteArray := prog_36_method_17_code
def yJ2_compress_39247 : MethodName := ⟨RJ2, "compress", "([BII)[B"⟩
abbrev cJ2_compress_5af95 : ByteArray := prog_36_method_22_code
def yJ2_compress_5af95 : MethodName := ⟨RJ2, "compress", "([BI[BII)I"⟩
abbrev cJ2_getChars_46870 : ByteArray := prog_36_method_77_code
def yJ2_getChars_46870 : MethodName := ⟨RJ2, "getChars", "(III[B)I"⟩
abbrev cJ2_putCharsAt_cd4e5 : ByteArray := prog_36_method_81_code
def yJ2_putCharsAt_cd4e5 : MethodName := ⟨RJ2, "putCharsAt", "([BICCCC)I"⟩
abbrev cJ2_charAt_3b067 : ByteArray := prog_36_method_83_code
def yJ2_charAt_3b067 : MethodName := ⟨RJ2, "charAt", "([BI)C"⟩
abbrev cJ2_inflate_0e8fd : ByteArray := prog_36_method_86_code
def yJ2_inflate_0e8fd : MethodName := ⟨RJ2, "inflate", "([BI[BII)V"⟩
abbrev cJ2_getChars_ba4f3 : ByteArray := prog_36_method_89_code
def yJ2_getChars_ba4f3 : MethodName := ⟨RJ2, "getChars", "(II[B)I"⟩
abbrev cJ2_checkIndex_2214a : ByteArray := prog_36_method_91_code
def yJ2_checkIndex_2214a : MethodName := ⟨RJ2, "checkIndex", "(I[B)V"⟩
abbrev cJ2_checkBoundsBeginEnd_d044e : ByteArray := prog_36_method_93_code
def yJ2_checkBoundsBeginEnd_d044e : MethodName := ⟨RJ2, "checkBoundsBeginEnd", "(II[B)V"⟩
abbrev cJ2_checkBoundsOffCount_d044e : ByteArray := prog_36_method_94_code
def yJ2_checkBoundsOffCount_d044e : MethodName := ⟨RJ2, "checkBoundsOffCount", "(II[B)V"⟩
def RJ10 : String := "java/lang/System"
def TJ10 : u_T := fun k => match k with
  | _ => ("", "", "", false)
def tyJ10 : Nat → FieldType := fun k => match k with
  | _ => .int
abbrev wsJ100 : List Cond := u_ws RJ10 TJ10 0
theorem nmJ10 : ∀ a, a < 0 → ∀ b, b < 0 → a ≠ b → (TJ10 a).2.1 ≠ (TJ10 b).2.1 := by decide +kernel
theorem tyJ10_ok : ∀ k, k < 0 → parseFieldDescriptor (TJ10 k).2.2.1 = some (tyJ10 k) := by decide +kernel
def RJxfd54e : String := "java/lang/constant/Constable"
def TJxfd54e : u_T := fun k => match k with
  | _ => ("", "", "", false)
def tyJxfd54e : Nat → FieldType := fun k => match k with
  | _ => .int
abbrev wsJxfd54e0 : List Cond := u_ws RJxfd54e TJxfd54e 0
theorem nmJxfd54e : ∀ a, a < 0 → ∀ b, b < 0 → a ≠ b → (TJxfd54e a).2.1 ≠ (TJxfd54e b).2.1 := by decide +kernel
theorem tyJxfd54e_ok : ∀ k, k < 0 → parseFieldDescriptor (TJxfd54e k).2.2.1 = some (tyJxfd54e k) := by decide +kernel
def RJx3cf43 : String := "java/lang/constant/ConstantDesc"
def TJx3cf43 : u_T := fun k => match k with
  | _ => ("", "", "", false)
def tyJx3cf43 : Nat → FieldType := fun k => match k with
  | _ => .int
abbrev wsJx3cf430 : List Cond := u_ws RJx3cf43 TJx3cf43 0
theorem nmJx3cf43 : ∀ a, a < 0 → ∀ b, b < 0 → a ≠ b → (TJx3cf43 a).2.1 ≠ (TJx3cf43 b).2.1 := by decide +kernel
theorem tyJx3cf43_ok : ∀ k, k < 0 → parseFieldDescriptor (TJx3cf43 k).2.2.1 = some (tyJx3cf43 k) := by decide +kernel
def RJ7 : String := "java/util/Arrays"
def TJ7 : u_T := fun k => match k with
  | _ => ("", "", "", false)
def tyJ7 : Nat → FieldType := fun k => match k with
  | _ => .int
abbrev wsJ70 : List Cond := u_ws RJ7 TJ7 0
theorem nmJ7 : ∀ a, a < 0 → ∀ b, b < 0 → a ≠ b → (TJ7 a).2.1 ≠ (TJ7 b).2.1 := by decide +kernel
theorem tyJ7_ok : ∀ k, k < 0 → parseFieldDescriptor (TJ7 k).2.2.1 = some (tyJ7 k) := by decide +kernel
abbrev cJ7_copyOf_9075b : ByteArray := prog_42_method_121_code
def yJ7_copyOf_9075b : MethodName := ⟨RJ7, "copyOf", "([BI)[B"⟩
abbrev cJ7_checkLength_df160 : ByteArray := prog_42_method_131_code
def yJ7_checkLength_df160 : MethodName := ⟨RJ7, "checkLength", "(II)V"⟩
abbrev cJ7_copyOfRange_39247 : ByteArray := prog_42_method_132_code
def yJ7_copyOfRange_39247 : MethodName := ⟨RJ7, "copyOfRange", "([BII)[B"⟩
abbrev cJ7_copyOfRangeByte_39247 : ByteArray := prog_42_method_133_code
def yJ7_copyOfRangeByte_39247 : MethodName := ⟨RJ7, "copyOfRangeByte", "([BII)[B"⟩
def RJ8 : String := "jdk/internal/util/ArraysSupport"
def TJ8 : u_T := fun k => match k with
  | _ => ("", "", "", false)
def tyJ8 : Nat → FieldType := fun k => match k with
  | _ => .int
abbrev wsJ80 : List Cond := u_ws RJ8 TJ8 0
theorem nmJ8 : ∀ a, a < 0 → ∀ b, b < 0 → a ≠ b → (TJ8 a).2.1 ≠ (TJ8 b).2.1 := by decide +kernel
theorem tyJ8_ok : ∀ k, k < 0 → parseFieldDescriptor (TJ8 k).2.2.1 = some (tyJ8 k) := by decide +kernel
abbrev cJ8_newLength_cabcc : ByteArray := prog_44_method_27_code
def yJ8_newLength_cabcc : MethodName := ⟨RJ8, "newLength", "(III)I"⟩
abbrev cJ8_hugeLength_7cf53 : ByteArray := prog_44_method_28_code
def yJ8_hugeLength_7cf53 : MethodName := ⟨RJ8, "hugeLength", "(II)I"⟩
def RJ3 : String := "jdk/internal/util/Preconditions"
def TJ3 : u_T := fun k => match k with
  | _ => ("", "", "", false)
def tyJ3 : Nat → FieldType := fun k => match k with
  | _ => .int
abbrev wsJ30 : List Cond := u_ws RJ3 TJ3 0
theorem nmJ3 : ∀ a, a < 0 → ∀ b, b < 0 → a ≠ b → (TJ3 a).2.1 ≠ (TJ3 b).2.1 := by decide +kernel
theorem tyJ3_ok : ∀ k, k < 0 → parseFieldDescriptor (TJ3 k).2.2.1 = some (tyJ3 k) := by decide +kernel
abbrev cJ3_checkIndex_8e157 : ByteArray := prog_45_method_11_code
def yJ3_checkIndex_8e157 : MethodName := ⟨RJ3, "checkIndex", "(IILjava/util/function/BiFunction;)I"⟩
abbrev cJ3_checkFromToIndex_8c36e : ByteArray := prog_45_method_12_code
def yJ3_checkFromToIndex_8c36e : MethodName := ⟨RJ3, "checkFromToIndex", "(IIILjava/util/function/BiFunction;)I"⟩
abbrev cJ3_checkFromIndexSize_8c36e : ByteArray := prog_45_method_13_code
def yJ3_checkFromIndexSize_8c36e : MethodName := ⟨RJ3, "checkFromIndexSize", "(IIILjava/util/function/BiFunction;)I"⟩
def RL : String := "EchoCanyonLaw"
abbrev cL_cell : ByteArray := method_2_code
def yL_cell : MethodName := ⟨RL, "cell", "([II)I"⟩
abbrev cL_pick : ByteArray := method_3_code
def yL_pick : MethodName := ⟨RL, "pick", "([III)I"⟩
abbrev cL_wall : ByteArray := method_4_code
def yL_wall : MethodName := ⟨RL, "wall", "(LEchoCanyon;II)I"⟩
abbrev cL_own : ByteArray := method_5_code
def yL_own : MethodName := ⟨RL, "own", "(LEchoCanyon;II)I"⟩
abbrev cL_player : ByteArray := method_6_code
def yL_player : MethodName := ⟨RL, "player", "(LEchoCanyon;II)I"⟩
abbrev cL_move : ByteArray := method_7_code
def yL_move : MethodName := ⟨RL, "move", "(LEchoCanyon;II)I"⟩
abbrev cL_shout : ByteArray := method_8_code
def yL_shout : MethodName := ⟨RL, "shout", "(LEchoCanyon;IZI)I"⟩
abbrev cL_beat : ByteArray := method_9_code
def yL_beat : MethodName := ⟨RL, "beat", "(LEchoCanyon;)I"⟩
abbrev cL_catchEcho : ByteArray := method_10_code
def yL_catchEcho : MethodName := ⟨RL, "catchEcho", "(LEchoCanyon;I)I"⟩
abbrev cL_wind : ByteArray := method_11_code
def yL_wind : MethodName := ⟨RL, "wind", "(LEchoCanyon;I)I"⟩
abbrev cL_wallOf : ByteArray := method_12_code
def yL_wallOf : MethodName := ⟨RL, "wallOf", "(LEchoCanyon;IZ)I"⟩
abbrev cL_teamOf : ByteArray := method_13_code
def yL_teamOf : MethodName := ⟨RL, "teamOf", "(LEchoCanyon;II)I"⟩
abbrev cL_playerOf : ByteArray := method_14_code
def yL_playerOf : MethodName := ⟨RL, "playerOf", "(LEchoCanyon;II)I"⟩
abbrev cL_soundOf : ByteArray := method_15_code
def yL_soundOf : MethodName := ⟨RL, "soundOf", "(LEchoCanyon;II)I"⟩
abbrev cL_isEcho : ByteArray := method_16_code
def yL_isEcho : MethodName := ⟨RL, "isEcho", "(LEchoCanyon;I)I"⟩
abbrev cL_echoesAt : ByteArray := method_17_code
def yL_echoesAt : MethodName := ⟨RL, "echoesAt", "(LEchoCanyon;I)I"⟩
abbrev cL_where : ByteArray := method_18_code
def yL_where : MethodName := ⟨RL, "where", "(LEchoCanyon;II)I"⟩
abbrev cL_loudIn : ByteArray := method_19_code
def yL_loudIn : MethodName := ⟨RL, "loudIn", "(LEchoCanyon;II)I"⟩
abbrev cL_goneIn : ByteArray := method_20_code
def yL_goneIn : MethodName := ⟨RL, "goneIn", "(LEchoCanyon;I)I"⟩
abbrev cL_goneInAgain : ByteArray := method_21_code
def yL_goneInAgain : MethodName := ⟨RL, "goneInAgain", "(LEchoCanyon;I)I"⟩
abbrev cL_comes : ByteArray := method_22_code
def yL_comes : MethodName := ⟨RL, "comes", "(LEchoCanyon;I)I"⟩
abbrev cL_comesAgain : ByteArray := method_23_code
def yL_comesAgain : MethodName := ⟨RL, "comesAgain", "(LEchoCanyon;I)I"⟩
abbrev cL_returns : ByteArray := method_24_code
def yL_returns : MethodName := ⟨RL, "returns", "(LEchoCanyon;IZI)I"⟩
abbrev cL_bestLoudness : ByteArray := method_25_code
def yL_bestLoudness : MethodName := ⟨RL, "bestLoudness", "(LEchoCanyon;IZ)I"⟩
abbrev cL_bestTeam : ByteArray := method_26_code
def yL_bestTeam : MethodName := ⟨RL, "bestTeam", "(LEchoCanyon;I)I"⟩
abbrev cL_price : ByteArray := method_27_code
def yL_price : MethodName := ⟨RL, "price", "(LEchoCanyon;II)I"⟩
abbrev cL_nextWall : ByteArray := method_28_code
def yL_nextWall : MethodName := ⟨RL, "nextWall", "(LEchoCanyon;IZ)I"⟩
abbrev cL_ranked : ByteArray := method_29_code
def yL_ranked : MethodName := ⟨RL, "ranked", "(LEchoCanyon;II)I"⟩
abbrev cL_loudest : ByteArray := method_30_code
def yL_loudest : MethodName := ⟨RL, "loudest", "(LEchoCanyon;I)I"⟩
abbrev cL_append : ByteArray := method_31_code
def yL_append : MethodName := ⟨RL, "append", "(LEchoCanyon;C)I"⟩
abbrev cL_commands : ByteArray := method_32_code
def yL_commands : MethodName := ⟨RL, "commands", "(LEchoCanyon;)I"⟩
abbrev cL_meanLoudness : ByteArray := method_36_code
def yL_meanLoudness : MethodName := ⟨RL, "meanLoudness", "(LEchoCanyon;)D"⟩
abbrev cL_echoShare : ByteArray := method_37_code
def yL_echoShare : MethodName := ⟨RL, "echoShare", "(LEchoCanyon;)F"⟩
abbrev cL_account : ByteArray := method_38_code
def yL_account : MethodName := ⟨RL, "account", "(LEchoCanyon;I)I"⟩
abbrev cL_undo : ByteArray := method_39_code
def yL_undo : MethodName := ⟨RL, "undo", "(LEchoCanyon;)I"⟩
abbrev cL_restore : ByteArray := method_40_code
def yL_restore : MethodName := ⟨RL, "restore", "(LEchoCanyon;)I"⟩
abbrev cL_reads : ByteArray := method_41_code
def yL_reads : MethodName := ⟨RL, "reads", "(LEchoCanyon;Ljava/lang/String;)I"⟩
abbrev cL_law : ByteArray := code
def yL_law : MethodName := ⟨RL, "law", "([I)Z"⟩
abbrev cL_gonesBelow : ByteArray := method_45_code
def yL_gonesBelow : MethodName := ⟨RL, "gonesBelow", "(LEchoCanyon;I)I"⟩
abbrev cL_does : ByteArray := method_46_code
def yL_does : MethodName := ⟨RL, "does", "([IIILEchoCanyon;I)I"⟩
abbrev cL_sum : ByteArray := method_47_code
def yL_sum : MethodName := ⟨RL, "sum", "(LEchoCanyon;)J"⟩
abbrev cL_areSounds : ByteArray := method_48_code
def yL_areSounds : MethodName := ⟨RL, "areSounds", "(LEchoCanyon;II)Z"⟩
abbrev cL_arePlayers : ByteArray := method_49_code
def yL_arePlayers : MethodName := ⟨RL, "arePlayers", "(LEchoCanyon;II)Z"⟩
abbrev cL_arePlaces : ByteArray := method_50_code
def yL_arePlaces : MethodName := ⟨RL, "arePlaces", "(LEchoCanyon;I)Z"⟩
abbrev cL_isWhole : ByteArray := method_51_code
def yL_isWhole : MethodName := ⟨RL, "isWhole", "(LEchoCanyon;[IIZ)Z"⟩
abbrev cL_isKept : ByteArray := method_52_code
def yL_isKept : MethodName := ⟨RL, "isKept", "(LEchoCanyon;[JI)Z"⟩
