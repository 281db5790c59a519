def RX0 : String := "ArgumentMap$1"
def TX0 : u_T := fun k => match k with
  | _ => ("", "", "", false)
def tyX0 : Nat → FieldType := fun k => match k with
  | _ => .int
abbrev wsX00 : List Cond := u_ws RX0 TX0 0
theorem nmX0 : ∀ a, a < 0 → ∀ b, b < 0 → a ≠ b → (TX0 a).2.1 ≠ (TX0 b).2.1 := by decide +kernel
theorem tyX0_ok : ∀ k, k < 0 → parseFieldDescriptor (TX0 k).2.2.1 = some (tyX0 k) := by decide +kernel
def RX1 : String := "ArgumentMap$Cycles"
def TX1 : u_T := fun k => match k with
  | _ => ("", "", "", false)
def tyX1 : Nat → FieldType := fun k => match k with
  | _ => .int
abbrev wsX10 : List Cond := u_ws RX1 TX1 0
theorem nmX1 : ∀ a, a < 0 → ∀ b, b < 0 → a ≠ b → (TX1 a).2.1 ≠ (TX1 b).2.1 := by decide +kernel
theorem tyX1_ok : ∀ k, k < 0 → parseFieldDescriptor (TX1 k).2.2.1 = some (tyX1 k) := by decide +kernel
abbrev cX1_remain : ByteArray := prog_3_method_2_code
def yX1_remain : MethodName := ⟨RX1, "remain", "(LArgumentMap$State;)Z"⟩
abbrev cX1_areFound : ByteArray := prog_3_method_3_code
def yX1_areFound : MethodName := ⟨RX1, "areFound", "(LArgumentMap$State;)Z"⟩
abbrev cX1_meetsPath : ByteArray := prog_3_method_4_code
def yX1_meetsPath : MethodName := ⟨RX1, "meetsPath", "([IIII)Z"⟩
def RX2 : String := "ArgumentMap$Dialogue"
def TX2 : u_T := fun k => match k with
  | 0 => ("ArgumentMap$Dialogue", "moves", "[I", true)
  | 1 => ("ArgumentMap$Dialogue", "count", "I", false)
  | 2 => ("ArgumentMap$Dialogue", "ended", "I", false)
  | 3 => ("ArgumentMap$Dialogue", "wonByProponent", "I", false)
  | _ => ("ArgumentMap$Dialogue", "brokenOff", "I", false)
def tyX2 : Nat → FieldType := fun k => match k with
  | 0 => .array .int
  | 1 => .int
  | 2 => .int
  | 3 => .int
  | _ => .int
abbrev wsX20 : List Cond := u_ws RX2 TX2 5
theorem nmX2 : ∀ a, a < 5 → ∀ b, b < 5 → a ≠ b → (TX2 a).2.1 ≠ (TX2 b).2.1 := by decide +kernel
theorem tyX2_ok : ∀ k, k < 5 → parseFieldDescriptor (TX2 k).2.2.1 = some (tyX2 k) := by decide +kernel
abbrev cX2_init : ByteArray := prog_4_method_1_code
def yX2_init : MethodName := ⟨RX2, "<init>", "()V"⟩
abbrev cX2_copyFrom : ByteArray := prog_4_method_2_code
def yX2_copyFrom : MethodName := ⟨RX2, "copyFrom", "(LArgumentMap$Dialogue;)V"⟩
abbrev cX2_isProponents : ByteArray := prog_4_method_3_code
def yX2_isProponents : MethodName := ⟨RX2, "isProponents", "(I)Z"⟩
abbrev cX2_isHeld : ByteArray := prog_4_method_4_code
def yX2_isHeld : MethodName := ⟨RX2, "isHeld", "()Z"⟩
abbrev cX2_isFull : ByteArray := prog_4_method_5_code
def yX2_isFull : MethodName := ⟨RX2, "isFull", "()Z"⟩
abbrev cX2_mustBeHeld : ByteArray := prog_4_method_6_code
def yX2_mustBeHeld : MethodName := ⟨RX2, "mustBeHeld", "()V"⟩
abbrev cX2_last : ByteArray := prog_4_method_7_code
def yX2_last : MethodName := ⟨RX2, "last", "()I"⟩
abbrev cX2_isMovedByProponent : ByteArray := prog_4_method_8_code
def yX2_isMovedByProponent : MethodName := ⟨RX2, "isMovedByProponent", "(I)Z"⟩
abbrev cX2_add : ByteArray := prog_4_method_9_code
def yX2_add : MethodName := ⟨RX2, "add", "(I)V"⟩
abbrev cX2_dropLast : ByteArray := prog_4_method_10_code
def yX2_dropLast : MethodName := ⟨RX2, "dropLast", "()I"⟩
abbrev cX2_end : ByteArray := prog_4_method_11_code
def yX2_end : MethodName := ⟨RX2, "end", "()C"⟩
abbrev cX2_breakOffIfMoved : ByteArray := prog_4_method_12_code
def yX2_breakOffIfMoved : MethodName := ⟨RX2, "breakOffIfMoved", "(I)V"⟩
def RX3 : String := "ArgumentMap$Extensions"
def TX3 : u_T := fun k => match k with
  | 0 => ("ArgumentMap$Extensions", "preferred", "[Z", true)
  | 1 => ("ArgumentMap$Extensions", "covered", "[Z", true)
  | _ => ("ArgumentMap$Extensions", "setCount", "I", false)
def tyX3 : Nat → FieldType := fun k => match k with
  | 0 => .array .boolean
  | 1 => .array .boolean
  | _ => .int
abbrev wsX30 : List Cond := u_ws RX3 TX3 3
theorem nmX3 : ∀ a, a < 3 → ∀ b, b < 3 → a ≠ b → (TX3 a).2.1 ≠ (TX3 b).2.1 := by decide +kernel
theorem tyX3_ok : ∀ k, k < 3 → parseFieldDescriptor (TX3 k).2.2.1 = some (tyX3 k) := by decide +kernel
abbrev cX3_init : ByteArray := prog_5_method_1_code
def yX3_init : MethodName := ⟨RX3, "<init>", "()V"⟩
abbrev cX3_countStable : ByteArray := prog_5_method_2_code
def yX3_countStable : MethodName := ⟨RX3, "countStable", "(LArgumentMap$State;)I"⟩
abbrev cX3_countStableByLabels : ByteArray := prog_5_method_3_code
def yX3_countStableByLabels : MethodName := ⟨RX3, "countStableByLabels", "(LArgumentMap$State;)I"⟩
abbrev cX3_sizeOfGreatestAdmissible : ByteArray := prog_5_method_4_code
def yX3_sizeOfGreatestAdmissible : MethodName := ⟨RX3, "sizeOfGreatestAdmissible", "(LArgumentMap$State;)I"⟩
abbrev cX3_find : ByteArray := prog_5_method_5_code
def yX3_find : MethodName := ⟨RX3, "find", "(LArgumentMap$State;)V"⟩
abbrev cX3_countPreferredWith : ByteArray := prog_5_method_6_code
def yX3_countPreferredWith : MethodName := ⟨RX3, "countPreferredWith", "(I)I"⟩
abbrev cX3_isCoveredByGreater : ByteArray := prog_5_method_7_code
def yX3_isCoveredByGreater : MethodName := ⟨RX3, "isCoveredByGreater", "(II)Z"⟩
abbrev cX3_attackersOf : ByteArray := prog_5_method_8_code
def yX3_attackersOf : MethodName := ⟨RX3, "attackersOf", "(LArgumentMap$State;I)I"⟩
abbrev cX3_isFree : ByteArray := prog_5_method_9_code
def yX3_isFree : MethodName := ⟨RX3, "isFree", "(LArgumentMap$State;I)Z"⟩
abbrev cX3_isAttackedBy : ByteArray := prog_5_method_10_code
def yX3_isAttackedBy : MethodName := ⟨RX3, "isAttackedBy", "(LArgumentMap$State;II)Z"⟩
abbrev cX3_isAdmissible : ByteArray := prog_5_method_11_code
def yX3_isAdmissible : MethodName := ⟨RX3, "isAdmissible", "(LArgumentMap$State;I)Z"⟩
abbrev cX3_countFrom : ByteArray := prog_5_method_12_code
def yX3_countFrom : MethodName := ⟨RX3, "countFrom", "(LArgumentMap$State;III)I"⟩
def RX4 : String := "ArgumentMap$Game"
def TX4 : u_T := fun k => match k with
  | 0 => ("ArgumentMap$Game", "won", "[I", true)
  | _ => ("ArgumentMap$Game", "lost", "[I", true)
def tyX4 : Nat → FieldType := fun k => match k with
  | 0 => .array .int
  | _ => .array .int
abbrev wsX40 : List Cond := u_ws RX4 TX4 2
theorem nmX4 : ∀ a, a < 2 → ∀ b, b < 2 → a ≠ b → (TX4 a).2.1 ≠ (TX4 b).2.1 := by decide +kernel
theorem tyX4_ok : ∀ k, k < 2 → parseFieldDescriptor (TX4 k).2.2.1 = some (tyX4 k) := by decide +kernel
abbrev cX4_init : ByteArray := prog_6_method_1_code
def yX4_init : MethodName := ⟨RX4, "<init>", "()V"⟩
abbrev cX4_isWonByProponent : ByteArray := prog_6_method_2_code
def yX4_isWonByProponent : MethodName := ⟨RX4, "isWonByProponent", "(LArgumentMap$State;I)Z"⟩
abbrev cX4_holds : ByteArray := prog_6_method_3_code
def yX4_holds : MethodName := ⟨RX4, "holds", "([IIII)Z"⟩
abbrev cX4_isAnswered : ByteArray := prog_6_method_4_code
def yX4_isAnswered : MethodName := ⟨RX4, "isAnswered", "([IIII)Z"⟩
def RX5 : String := "ArgumentMap$History"
def TX5 : u_T := fun k => match k with
  | 0 => ("ArgumentMap$History", "rows", "[LArgumentMap$State;", true)
  | 1 => ("ArgumentMap$History", "next", "I", false)
  | _ => ("ArgumentMap$History", "kept", "I", false)
def tyX5 : Nat → FieldType := fun k => match k with
  | 0 => .array (.object "ArgumentMap$State")
  | 1 => .int
  | _ => .int
abbrev wsX50 : List Cond := u_ws RX5 TX5 3
theorem nmX5 : ∀ a, a < 3 → ∀ b, b < 3 → a ≠ b → (TX5 a).2.1 ≠ (TX5 b).2.1 := by decide +kernel
theorem tyX5_ok : ∀ k, k < 3 → parseFieldDescriptor (TX5 k).2.2.1 = some (tyX5 k) := by decide +kernel
abbrev cX5_init : ByteArray := prog_7_method_1_code
def yX5_init : MethodName := ⟨RX5, "<init>", "()V"⟩
abbrev cX5_draft : ByteArray := prog_7_method_2_code
def yX5_draft : MethodName := ⟨RX5, "draft", "()LArgumentMap$State;"⟩
abbrev cX5_begin : ByteArray := prog_7_method_3_code
def yX5_begin : MethodName := ⟨RX5, "begin", "(LArgumentMap$State;)V"⟩
abbrev cX5_keep : ByteArray := prog_7_method_4_code
def yX5_keep : MethodName := ⟨RX5, "keep", "()V"⟩
def RX6 : String := "ArgumentMap$Labels"
def TX6 : u_T := fun k => match k with
  | 0 => ("ArgumentMap$Labels", "rounds", "[I", true)
  | 1 => ("ArgumentMap$Labels", "accepted", "I", false)
  | _ => ("ArgumentMap$Labels", "rejected", "I", false)
def tyX6 : Nat → FieldType := fun k => match k with
  | 0 => .array .int
  | 1 => .int
  | _ => .int
abbrev wsX60 : List Cond := u_ws RX6 TX6 3
theorem nmX6 : ∀ a, a < 3 → ∀ b, b < 3 → a ≠ b → (TX6 a).2.1 ≠ (TX6 b).2.1 := by decide +kernel
theorem tyX6_ok : ∀ k, k < 3 → parseFieldDescriptor (TX6 k).2.2.1 = some (tyX6 k) := by decide +kernel
abbrev cX6_init : ByteArray := prog_8_method_1_code
def yX6_init : MethodName := ⟨RX6, "<init>", "()V"⟩
abbrev cX6_give : ByteArray := prog_8_method_2_code
def yX6_give : MethodName := ⟨RX6, "give", "(LArgumentMap$State;)V"⟩
abbrev cX6_letter : ByteArray := prog_8_method_3_code
def yX6_letter : MethodName := ⟨RX6, "letter", "(I)C"⟩
abbrev cX6_findAcceptable : ByteArray := prog_8_method_4_code
def yX6_findAcceptable : MethodName := ⟨RX6, "findAcceptable", "(LArgumentMap$State;)I"⟩
abbrev cX6_findRejectable : ByteArray := prog_8_method_5_code
def yX6_findRejectable : MethodName := ⟨RX6, "findRejectable", "(LArgumentMap$State;)I"⟩
abbrev cX6_noteRound : ByteArray := prog_8_method_6_code
def yX6_noteRound : MethodName := ⟨RX6, "noteRound", "(II)V"⟩
def RX7 : String := "ArgumentMap$Program"
def TX7 : u_T := fun k => match k with
  | 0 => ("ArgumentMap$Program", "verbs", "[I", true)
  | 1 => ("ArgumentMap$Program", "first", "[I", true)
  | 2 => ("ArgumentMap$Program", "second", "[I", true)
  | 3 => ("ArgumentMap$Program", "count", "I", false)
  | 4 => ("ArgumentMap$Program", "position", "I", false)
  | _ => ("ArgumentMap$Program", "operandCount", "I", false)
def tyX7 : Nat → FieldType := fun k => match k with
  | 0 => .array .int
  | 1 => .array .int
  | 2 => .array .int
  | 3 => .int
  | 4 => .int
  | _ => .int
abbrev wsX70 : List Cond := u_ws RX7 TX7 6
theorem nmX7 : ∀ a, a < 6 → ∀ b, b < 6 → a ≠ b → (TX7 a).2.1 ≠ (TX7 b).2.1 := by decide +kernel
theorem tyX7_ok : ∀ k, k < 6 → parseFieldDescriptor (TX7 k).2.2.1 = some (tyX7 k) := by decide +kernel
abbrev cX7_init : ByteArray := prog_9_method_1_code
def yX7_init : MethodName := ⟨RX7, "<init>", "()V"⟩
def RX8 : String := "ArgumentMap$State"
def TX8 : u_T := fun k => match k with
  | 0 => ("ArgumentMap$State", "ids", "[I", true)
  | 1 => ("ArgumentMap$State", "weights", "[I", true)
  | 2 => ("ArgumentMap$State", "ages", "[I", true)
  | 3 => ("ArgumentMap$State", "targets", "[I", true)
  | 4 => ("ArgumentMap$State", "attackers", "[I", true)
  | 5 => ("ArgumentMap$State", "dialogue", "LArgumentMap$Dialogue;", true)
  | 6 => ("ArgumentMap$State", "count", "I", false)
  | 7 => ("ArgumentMap$State", "nextId", "I", false)
  | _ => ("ArgumentMap$State", "day", "I", false)
def tyX8 : Nat → FieldType := fun k => match k with
  | 0 => .array .int
  | 1 => .array .int
  | 2 => .array .int
  | 3 => .array .int
  | 4 => .array .int
  | 5 => .object "ArgumentMap$Dialogue"
  | 6 => .int
  | 7 => .int
  | _ => .int
abbrev wsX80 : List Cond := u_ws RX8 TX8 9
theorem nmX8 : ∀ a, a < 9 → ∀ b, b < 9 → a ≠ b → (TX8 a).2.1 ≠ (TX8 b).2.1 := by decide +kernel
theorem tyX8_ok : ∀ k, k < 9 → parseFieldDescriptor (TX8 k).2.2.1 = some (tyX8 k) := by decide +kernel
abbrev cX8_init : ByteArray := prog_10_method_1_code
def yX8_init : MethodName := ⟨RX8, "<init>", "()V"⟩
abbrev cX8_copyFrom : ByteArray := prog_10_method_2_code
def yX8_copyFrom : MethodName := ⟨RX8, "copyFrom", "(LArgumentMap$State;)V"⟩
abbrev cX8_apply : ByteArray := prog_10_method_3_code
def yX8_apply : MethodName := ⟨RX8, "apply", "(LArgumentMap$Verb;II)I"⟩
abbrev cX8_slotOfKnown : ByteArray := prog_10_method_4_code
def yX8_slotOfKnown : MethodName := ⟨RX8, "slotOfKnown", "(I)I"⟩
abbrev cX8_slotOfReply : ByteArray := prog_10_method_5_code
def yX8_slotOfReply : MethodName := ⟨RX8, "slotOfReply", "(I)I"⟩
abbrev cX8_all : ByteArray := prog_10_method_6_code
def yX8_all : MethodName := ⟨RX8, "all", "()I"⟩
abbrev cX8_strength : ByteArray := prog_10_method_7_code
def yX8_strength : MethodName := ⟨RX8, "strength", "(I)I"⟩
abbrev cX8_countAttacks : ByteArray := prog_10_method_8_code
def yX8_countAttacks : MethodName := ⟨RX8, "countAttacks", "()I"⟩
abbrev cX8_rank : ByteArray := prog_10_method_9_code
def yX8_rank : MethodName := ⟨RX8, "rank", "(I)I"⟩
abbrev cX8_isAllowed : ByteArray := prog_10_method_10_code
def yX8_isAllowed : MethodName := ⟨RX8, "isAllowed", "(I)Z"⟩
abbrev cX8_age : ByteArray := prog_10_method_11_code
def yX8_age : MethodName := ⟨RX8, "age", "(I)I"⟩
abbrev cX8_add : ByteArray := prog_10_method_12_code
def yX8_add : MethodName := ⟨RX8, "add", "(I)I"⟩
abbrev cX8_remove : ByteArray := prog_10_method_13_code
def yX8_remove : MethodName := ⟨RX8, "remove", "(I)I"⟩
abbrev cX8_attack : ByteArray := prog_10_method_14_code
def yX8_attack : MethodName := ⟨RX8, "attack", "(II)I"⟩
abbrev cX8_yieldAttack : ByteArray := prog_10_method_15_code
def yX8_yieldAttack : MethodName := ⟨RX8, "yieldAttack", "(II)I"⟩
abbrev cX8_weigh : ByteArray := prog_10_method_16_code
def yX8_weigh : MethodName := ⟨RX8, "weigh", "(II)I"⟩
abbrev cX8_makeNew : ByteArray := prog_10_method_17_code
def yX8_makeNew : MethodName := ⟨RX8, "makeNew", "(I)I"⟩
abbrev cX8_claim : ByteArray := prog_10_method_18_code
def yX8_claim : MethodName := ⟨RX8, "claim", "(I)I"⟩
abbrev cX8_reply : ByteArray := prog_10_method_19_code
def yX8_reply : MethodName := ⟨RX8, "reply", "(I)I"⟩
abbrev cX8_letPass : ByteArray := prog_10_method_20_code
def yX8_letPass : MethodName := ⟨RX8, "letPass", "(I)I"⟩
abbrev cX8_mustBeWeight : ByteArray := prog_10_method_21_code
def yX8_mustBeWeight : MethodName := ⟨RX8, "mustBeWeight", "(I)V"⟩
abbrev cX8_withoutSlot : ByteArray := prog_10_method_22_code
def yX8_withoutSlot : MethodName := ⟨RX8, "withoutSlot", "(II)I"⟩
abbrev cX8_isBefore : ByteArray := prog_10_method_23_code
def yX8_isBefore : MethodName := ⟨RX8, "isBefore", "(II)Z"⟩
abbrev cX8_findAttackers : ByteArray := prog_10_method_24_code
def yX8_findAttackers : MethodName := ⟨RX8, "findAttackers", "()I"⟩
def RX9 : String := "ArgumentMap$Verb"
def TX9 : u_T := fun k => match k with
  | _ => ("", "", "", false)
def tyX9 : Nat → FieldType := fun k => match k with
  | _ => .int
abbrev wsX90 : List Cond := u_ws RX9 TX9 0
theorem nmX9 : ∀ a, a < 0 → ∀ b, b < 0 → a ≠ b → (TX9 a).2.1 ≠ (TX9 b).2.1 := by decide +kernel
theorem tyX9_ok : ∀ k, k < 0 → parseFieldDescriptor (TX9 k).2.2.1 = some (tyX9 k) := by decide +kernel
def RX10 : String := "ArgumentMap"
def TX10 : u_T := fun k => match k with
  | 0 => ("ArgumentMap", "now", "LArgumentMap$State;", true)
  | 1 => ("ArgumentMap", "saved", "LArgumentMap$State;", true)
  | 2 => ("ArgumentMap", "later", "LArgumentMap$State;", true)
  | 3 => ("ArgumentMap", "history", "LArgumentMap$History;", true)
  | 4 => ("ArgumentMap", "labels", "LArgumentMap$Labels;", true)
  | 5 => ("ArgumentMap", "game", "LArgumentMap$Game;", true)
  | 6 => ("ArgumentMap", "extensions", "LArgumentMap$Extensions;", true)
  | 7 => ("ArgumentMap", "program", "LArgumentMap$Program;", true)
  | 8 => ("ArgumentMap", "input", "Ljava/lang/StringBuilder;", true)
  | 9 => ("ArgumentMap", "line", "Ljava/lang/StringBuilder;", true)
  | 10 => ("ArgumentMap", "hasSaved", "Z", false)
  | 11 => ("ArgumentMap", "storedErrorPosition", "I", false)
  | _ => ("ArgumentMap", "storedFailedCommand", "I", false)
def tyX10 : Nat → FieldType := fun k => match k with
  | 0 => .object "ArgumentMap$State"
  | 1 => .object "ArgumentMap$State"
  | 2 => .object "ArgumentMap$State"
  | 3 => .object "ArgumentMap$History"
  | 4 => .object "ArgumentMap$Labels"
  | 5 => .object "ArgumentMap$Game"
  | 6 => .object "ArgumentMap$Extensions"
  | 7 => .object "ArgumentMap$Program"
  | 8 => .object "java/lang/StringBuilder"
  | 9 => .object "java/lang/StringBuilder"
  | 10 => .boolean
  | 11 => .int
  | _ => .int
abbrev wsX100 : List Cond := u_ws RX10 TX10 13
theorem nmX10 : ∀ a, a < 13 → ∀ b, b < 13 → a ≠ b → (TX10 a).2.1 ≠ (TX10 b).2.1 := by decide +kernel
theorem tyX10_ok : ∀ k, k < 13 → parseFieldDescriptor (TX10 k).2.2.1 = some (tyX10 k) := by decide +kernel
abbrev cX10_init : ByteArray := prog_1_method_1_code
def yX10_init : MethodName := ⟨RX10, "<init>", "()V"⟩
abbrev cX10_addArgument : ByteArray := prog_1_method_2_code
def yX10_addArgument : MethodName := ⟨RX10, "addArgument", "(I)I"⟩
abbrev cX10_removeArgument : ByteArray := prog_1_method_3_code
def yX10_removeArgument : MethodName := ⟨RX10, "removeArgument", "(I)I"⟩
abbrev cX10_addAttack : ByteArray := prog_1_method_4_code
def yX10_addAttack : MethodName := ⟨RX10, "addAttack", "(II)I"⟩
abbrev cX10_removeAttack : ByteArray := prog_1_method_5_code
def yX10_removeAttack : MethodName := ⟨RX10, "removeAttack", "(II)I"⟩
abbrev cX10_setWeight : ByteArray := prog_1_method_6_code
def yX10_setWeight : MethodName := ⟨RX10, "setWeight", "(II)I"⟩
abbrev cX10_renew : ByteArray := prog_1_method_7_code
def yX10_renew : MethodName := ⟨RX10, "renew", "(I)I"⟩
abbrev cX10_startDialogue : ByteArray := prog_1_method_8_code
def yX10_startDialogue : MethodName := ⟨RX10, "startDialogue", "(I)I"⟩
abbrev cX10_move : ByteArray := prog_1_method_9_code
def yX10_move : MethodName := ⟨RX10, "move", "(I)I"⟩
abbrev cX10_takeBack : ByteArray := prog_1_method_10_code
def yX10_takeBack : MethodName := ⟨RX10, "takeBack", "()I"⟩
abbrev cX10_endDialogue : ByteArray := prog_1_method_11_code
def yX10_endDialogue : MethodName := ⟨RX10, "endDialogue", "()C"⟩
abbrev cX10_pass : ByteArray := prog_1_method_12_code
def yX10_pass : MethodName := ⟨RX10, "pass", "(I)I"⟩
abbrev cX10_argumentCount : ByteArray := prog_1_method_14_code
def yX10_argumentCount : MethodName := ⟨RX10, "argumentCount", "()I"⟩
abbrev cX10_idAt : ByteArray := prog_1_method_15_code
def yX10_idAt : MethodName := ⟨RX10, "idAt", "(I)I"⟩
abbrev cX10_weightOf : ByteArray := prog_1_method_16_code
def yX10_weightOf : MethodName := ⟨RX10, "weightOf", "(I)I"⟩
abbrev cX10_ageOf : ByteArray := prog_1_method_17_code
def yX10_ageOf : MethodName := ⟨RX10, "ageOf", "(I)I"⟩
abbrev cX10_strengthOf : ByteArray := prog_1_method_18_code
def yX10_strengthOf : MethodName := ⟨RX10, "strengthOf", "(I)I"⟩
abbrev cX10_attackCount : ByteArray := prog_1_method_19_code
def yX10_attackCount : MethodName := ⟨RX10, "attackCount", "()I"⟩
abbrev cX10_hasAttack : ByteArray := prog_1_method_20_code
def yX10_hasAttack : MethodName := ⟨RX10, "hasAttack", "(II)Z"⟩
abbrev cX10_isSuccessful : ByteArray := prog_1_method_21_code
def yX10_isSuccessful : MethodName := ⟨RX10, "isSuccessful", "(II)Z"⟩
abbrev cX10_successfulCount : ByteArray := prog_1_method_22_code
def yX10_successfulCount : MethodName := ⟨RX10, "successfulCount", "()I"⟩
abbrev cX10_attackerCount : ByteArray := prog_1_method_23_code
def yX10_attackerCount : MethodName := ⟨RX10, "attackerCount", "(I)I"⟩
abbrev cX10_attackerAt : ByteArray := prog_1_method_24_code
def yX10_attackerAt : MethodName := ⟨RX10, "attackerAt", "(II)I"⟩
abbrev cX10_status : ByteArray := prog_1_method_25_code
def yX10_status : MethodName := ⟨RX10, "status", "(I)C"⟩
abbrev cX10_roundOf : ByteArray := prog_1_method_26_code
def yX10_roundOf : MethodName := ⟨RX10, "roundOf", "(I)I"⟩
abbrev cX10_isAcceptedByGame : ByteArray := prog_1_method_27_code
def yX10_isAcceptedByGame : MethodName := ⟨RX10, "isAcceptedByGame", "(I)Z"⟩
abbrev cX10_canOpponentWin : ByteArray := prog_1_method_28_code
def yX10_canOpponentWin : MethodName := ⟨RX10, "canOpponentWin", "(I)Z"⟩
abbrev cX10_acceptedCount : ByteArray := prog_1_method_29_code
def yX10_acceptedCount : MethodName := ⟨RX10, "acceptedCount", "()I"⟩
abbrev cX10_undecidedCount : ByteArray := prog_1_method_30_code
def yX10_undecidedCount : MethodName := ⟨RX10, "undecidedCount", "()I"⟩
abbrev cX10_stableCount : ByteArray := prog_1_method_31_code
def yX10_stableCount : MethodName := ⟨RX10, "stableCount", "()I"⟩
abbrev cX10_stableCountByLabels : ByteArray := prog_1_method_32_code
def yX10_stableCountByLabels : MethodName := ⟨RX10, "stableCountByLabels", "()I"⟩
abbrev cX10_preferredCount : ByteArray := prog_1_method_33_code
def yX10_preferredCount : MethodName := ⟨RX10, "preferredCount", "()I"⟩
abbrev cX10_greatestAdmissible : ByteArray := prog_1_method_34_code
def yX10_greatestAdmissible : MethodName := ⟨RX10, "greatestAdmissible", "()I"⟩
abbrev cX10_isCredible : ByteArray := prog_1_method_35_code
def yX10_isCredible : MethodName := ⟨RX10, "isCredible", "(I)Z"⟩
abbrev cX10_isCertain : ByteArray := prog_1_method_36_code
def yX10_isCertain : MethodName := ⟨RX10, "isCertain", "(I)Z"⟩
abbrev cX10_canStandTogether : ByteArray := prog_1_method_37_code
def yX10_canStandTogether : MethodName := ⟨RX10, "canStandTogether", "(II)Z"⟩
abbrev cX10_hasCycle : ByteArray := prog_1_method_38_code
def yX10_hasCycle : MethodName := ⟨RX10, "hasCycle", "()Z"⟩
abbrev cX10_hasCycleBySearch : ByteArray := prog_1_method_39_code
def yX10_hasCycleBySearch : MethodName := ⟨RX10, "hasCycleBySearch", "()Z"⟩
abbrev cX10_statusAfter : ByteArray := prog_1_method_41_code
def yX10_statusAfter : MethodName := ⟨RX10, "statusAfter", "(II)C"⟩
abbrev cX10_argumentByStrength : ByteArray := prog_1_method_42_code
def yX10_argumentByStrength : MethodName := ⟨RX10, "argumentByStrength", "(I)I"⟩
abbrev cX10_isDialogueHeld : ByteArray := prog_1_method_43_code
def yX10_isDialogueHeld : MethodName := ⟨RX10, "isDialogueHeld", "()Z"⟩
abbrev cX10_moveCount : ByteArray := prog_1_method_44_code
def yX10_moveCount : MethodName := ⟨RX10, "moveCount", "()I"⟩
abbrev cX10_moveAt : ByteArray := prog_1_method_45_code
def yX10_moveAt : MethodName := ⟨RX10, "moveAt", "(I)I"⟩
abbrev cX10_canMove : ByteArray := prog_1_method_46_code
def yX10_canMove : MethodName := ⟨RX10, "canMove", "(I)Z"⟩
abbrev cX10_meanStrength : ByteArray := prog_1_method_50_code
def yX10_meanStrength : MethodName := ⟨RX10, "meanStrength", "()D"⟩
abbrev cX10_acceptedShare : ByteArray := prog_1_method_51_code
def yX10_acceptedShare : MethodName := ⟨RX10, "acceptedShare", "()F"⟩
abbrev cX10_isConsistent : ByteArray := prog_1_method_52_code
def yX10_isConsistent : MethodName := ⟨RX10, "isConsistent", "()Z"⟩
abbrev cX10_formatArgument : ByteArray := prog_1_method_53_code
def yX10_formatArgument : MethodName := ⟨RX10, "formatArgument", "(I)I"⟩
abbrev cX10_formatDialogue : ByteArray := prog_1_method_54_code
def yX10_formatDialogue : MethodName := ⟨RX10, "formatDialogue", "()I"⟩
abbrev cX10_lineChar : ByteArray := prog_1_method_55_code
def yX10_lineChar : MethodName := ⟨RX10, "lineChar", "(I)C"⟩
abbrev cX10_change : ByteArray := prog_1_method_64_code
def yX10_change : MethodName := ⟨RX10, "change", "(LArgumentMap$Verb;II)I"⟩
abbrev cX10_labelsAgreeWithGame : ByteArray := prog_1_method_66_code
def yX10_labelsAgreeWithGame : MethodName := ⟨RX10, "labelsAgreeWithGame", "()Z"⟩
abbrev cX10_has : ByteArray := prog_1_method_67_code
def yX10_has : MethodName := ⟨RX10, "has", "(II)Z"⟩
def RX11 : String := "ArgumentMapModel"
def TX11 : u_T := fun k => match k with
  | _ => ("", "", "", false)
def tyX11 : Nat → FieldType := fun k => match k with
  | _ => .int
abbrev wsX110 : List Cond := u_ws RX11 TX11 0
theorem nmX11 : ∀ a, a < 0 → ∀ b, b < 0 → a ≠ b → (TX11 a).2.1 ≠ (TX11 b).2.1 := by decide +kernel
theorem tyX11_ok : ∀ k, k < 0 → parseFieldDescriptor (TX11 k).2.2.1 = some (tyX11 k) := by decide +kernel
def RJx145de : String := "java/io/Serializable"
def TJx145de : u_T := fun k => match k with
  | _ => ("", "", "", false)
def tyJx145de : Nat → FieldType := fun k => match k with
  | _ => .int
abbrev wsJx145de0 : List Cond := u_ws RJx145de TJx145de 0
theorem nmJx145de : ∀ a, a < 0 → ∀ b, b < 0 → a ≠ b → (TJx145de a).2.1 ≠ (TJx145de b).2.1 := by decide +kernel
theorem tyJx145de_ok : ∀ k, k < 0 → parseFieldDescriptor (TJx145de k).2.2.1 = some (tyJx145de k) := by decide +kernel
def RJ5 : String := "java/lang/AbstractStringBuilder"
def TJ5 : u_T := fun k => match k with
  | _ => ("", "", "", false)
def tyJ5 : Nat → FieldType := fun k => match k with
  | _ => .int
abbrev wsJ50 : List Cond := u_ws RJ5 TJ5 0
theorem nmJ5 : ∀ a, a < 0 → ∀ b, b < 0 → a ≠ b → (TJ5 a).2.1 ≠ (TJ5 b).2.1 := by decide +kernel
theorem tyJ5_ok : ∀ k, k < 0 → parseFieldDescriptor (TJ5 k).2.2.1 = some (tyJ5 k) := by decide +kernel
abbrev cJ5_init_d00df : ByteArray := prog_15_method_2_code
def yJ5_init_d00df : MethodName := ⟨RJ5, "<init>", "(I)V"⟩
abbrev cJ5_length_8abf5 : ByteArray := prog_15_method_6_code
def yJ5_length_8abf5 : MethodName := ⟨RJ5, "length", "()I"⟩
abbrev cJ5_ensureCapacityInternal_d00df : ByteArray := prog_15_method_9_code
def yJ5_ensureCapacityInternal_d00df : MethodName := ⟨RJ5, "ensureCapacityInternal", "(I)V"⟩
abbrev cJ5_newCapacity_0f7a4 : ByteArray := prog_15_method_10_code
def yJ5_newCapacity_0f7a4 : MethodName := ⟨RJ5, "newCapacity", "(I)I"⟩
abbrev cJ5_inflate_da8c8 : ByteArray := prog_15_method_11_code
def yJ5_inflate_da8c8 : MethodName := ⟨RJ5, "inflate", "()V"⟩
abbrev cJ5_setLength_d00df : ByteArray := prog_15_method_13_code
def yJ5_setLength_d00df : MethodName := ⟨RJ5, "setLength", "(I)V"⟩
abbrev cJ5_charAt_5068e : ByteArray := prog_15_method_14_code
def yJ5_charAt_5068e : MethodName := ⟨RJ5, "charAt", "(I)C"⟩
abbrev cJ5_append_cf1ce : ByteArray := prog_15_method_22_code
def yJ5_append_cf1ce : MethodName := ⟨RJ5, "append", "(Ljava/lang/String;)Ljava/lang/AbstractStringBuilder;"⟩
abbrev cJ5_appendNull_278bc : ByteArray := prog_15_method_26_code
def yJ5_appendNull_278bc : MethodName := ⟨RJ5, "appendNull", "()Ljava/lang/AbstractStringBuilder;"⟩
abbrev cJ5_append_3fe6f : ByteArray := prog_15_method_31_code
def yJ5_append_3fe6f : MethodName := ⟨RJ5, "append", "(C)Ljava/lang/AbstractStringBuilder;"⟩
abbrev cJ5_append_c97b9 : ByteArray := prog_15_method_32_code
def yJ5_append_c97b9 : MethodName := ⟨RJ5, "append", "(I)Ljava/lang/AbstractStringBuilder;"⟩
abbrev cJ5_getValue_6d5f1 : ByteArray := prog_15_method_64_code
def yJ5_getValue_6d5f1 : MethodName := ⟨RJ5, "getValue", "()[B"⟩
abbrev cJ5_isLatin1_aae02 : ByteArray := prog_15_method_68_code
def yJ5_isLatin1_aae02 : MethodName := ⟨RJ5, "isLatin1", "()Z"⟩
abbrev cJ5_inflateIfNeededFor_a7421 : ByteArray := prog_15_method_71_code
def yJ5_inflateIfNeededFor_a7421 : MethodName := ⟨RJ5, "inflateIfNeededFor", "(Ljava/lang/String;)V"⟩
abbrev cJ5_putStringAt_47b60 : ByteArray := prog_15_method_73_code
def yJ5_putStringAt_47b60 : MethodName := ⟨RJ5, "putStringAt", "(ILjava/lang/String;)V"⟩
def RJx2cfe8 : String := "java/lang/Appendable"
def TJx2cfe8 : u_T := fun k => match k with
  | _ => ("", "", "", false)
def tyJx2cfe8 : Nat → FieldType := fun k => match k with
  | _ => .int
abbrev wsJx2cfe80 : List Cond := u_ws RJx2cfe8 TJx2cfe8 0
theorem nmJx2cfe8 : ∀ a, a < 0 → ∀ b, b < 0 → a ≠ b → (TJx2cfe8 a).2.1 ≠ (TJx2cfe8 b).2.1 := by decide +kernel
theorem tyJx2cfe8_ok : ∀ k, k < 0 → parseFieldDescriptor (TJx2cfe8 k).2.2.1 = some (tyJx2cfe8 k) := by decide +kernel
def RJx00060 : String := "java/lang/ArrayIndexOutOfBoundsException"
def TJx00060 : u_T := fun k => match k with
  | 0 => ("java/lang/Throwable", "cause", "Ljava/lang/Throwable;", false)
  | 1 => ("java/lang/Throwable", "stackTrace", "[Ljava/lang/StackTraceElement;", false)
  | 2 => ("java/lang/Throwable", "suppressedExceptions", "Ljava/util/List;", false)
  | 3 => ("java/lang/Throwable", "detailMessage", "Ljava/lang/String;", false)
  | 4 => ("java/lang/Throwable", "backtrace", "Ljava/lang/Object;", false)
  | _ => ("java/lang/Throwable", "depth", "I", false)
def tyJx00060 : Nat → FieldType := fun k => match k with
  | 0 => .object "java/lang/Throwable"
  | 1 => .array (.object "java/lang/StackTraceElement")
  | 2 => .object "java/util/List"
  | 3 => .object "java/lang/String"
  | 4 => .object "java/lang/Object"
  | _ => .int
abbrev wsJx000600 : List Cond := u_ws RJx00060 TJx00060 6
theorem nmJx00060 : ∀ a, a < 6 → ∀ b, b < 6 → a ≠ b → (TJx00060 a).2.1 ≠ (TJx00060 b).2.1 := by decide +kernel
theorem tyJx00060_ok : ∀ k, k < 6 → parseFieldDescriptor (TJx00060 k).2.2.1 = some (tyJx00060 k) := by decide +kernel
abbrev cJx00060_init_a7421 : ByteArray := prog_18_method_2_code
def yJx00060_init_a7421 : MethodName := ⟨RJx00060, "<init>", "(Ljava/lang/String;)V"⟩
abbrev cJx00060_init_d00df : ByteArray := prog_18_method_3_code
def yJx00060_init_d00df : MethodName := ⟨RJx00060, "<init>", "(I)V"⟩
def RJx9f9b0 : String := "java/lang/CharSequence"
def TJx9f9b0 : u_T := fun k => match k with
  | _ => ("", "", "", false)
def tyJx9f9b0 : Nat → FieldType := fun k => match k with
  | _ => .int
abbrev wsJx9f9b00 : List Cond := u_ws RJx9f9b0 TJx9f9b0 0
theorem nmJx9f9b0 : ∀ a, a < 0 → ∀ b, b < 0 → a ≠ b → (TJx9f9b0 a).2.1 ≠ (TJx9f9b0 b).2.1 := by decide +kernel
theorem tyJx9f9b0_ok : ∀ k, k < 0 → parseFieldDescriptor (TJx9f9b0 k).2.2.1 = some (tyJx9f9b0 k) := by decide +kernel
def RJx8e188 : String := "java/lang/Cloneable"
def TJx8e188 : u_T := fun k => match k with
  | _ => ("", "", "", false)
def tyJx8e188 : Nat → FieldType := fun k => match k with
  | _ => .int
abbrev wsJx8e1880 : List Cond := u_ws RJx8e188 TJx8e188 0
theorem nmJx8e188 : ∀ a, a < 0 → ∀ b, b < 0 → a ≠ b → (TJx8e188 a).2.1 ≠ (TJx8e188 b).2.1 := by decide +kernel
theorem tyJx8e188_ok : ∀ k, k < 0 → parseFieldDescriptor (TJx8e188 k).2.2.1 = some (tyJx8e188 k) := by decide +kernel
def RJxb160c : String := "java/lang/Comparable"
def TJxb160c : u_T := fun k => match k with
  | _ => ("", "", "", false)
def tyJxb160c : Nat → FieldType := fun k => match k with
  | _ => .int
abbrev wsJxb160c0 : List Cond := u_ws RJxb160c TJxb160c 0
theorem nmJxb160c : ∀ a, a < 0 → ∀ b, b < 0 → a ≠ b → (TJxb160c a).2.1 ≠ (TJxb160c b).2.1 := by decide +kernel
theorem tyJxb160c_ok : ∀ k, k < 0 → parseFieldDescriptor (TJxb160c k).2.2.1 = some (tyJxb160c k) := by decide +kernel
def RJx29ce0 : String := "java/lang/Enum"
def TJx29ce0 : u_T := fun k => match k with
  | _ => ("", "", "", false)
def tyJx29ce0 : Nat → FieldType := fun k => match k with
  | _ => .int
abbrev wsJx29ce00 : List Cond := u_ws RJx29ce0 TJx29ce0 0
theorem nmJx29ce0 : ∀ a, a < 0 → ∀ b, b < 0 → a ≠ b → (TJx29ce0 a).2.1 ≠ (TJx29ce0 b).2.1 := by decide +kernel
theorem tyJx29ce0_ok : ∀ k, k < 0 → parseFieldDescriptor (TJx29ce0 k).2.2.1 = some (tyJx29ce0 k) := by decide +kernel
abbrev cJx29ce0_ordinal_8abf5 : ByteArray := prog_22_method_2_code
def yJx29ce0_ordinal_8abf5 : MethodName := ⟨RJx29ce0, "ordinal", "()I"⟩
def RJ6 : String := "java/lang/Integer"
def TJ6 : u_T := fun k => match k with
  | _ => ("", "", "", false)
def tyJ6 : Nat → FieldType := fun k => match k with
  | _ => .int
abbrev wsJ60 : List Cond := u_ws RJ6 TJ6 0
theorem nmJ6 : ∀ a, a < 0 → ∀ b, b < 0 → a ≠ b → (TJ6 a).2.1 ≠ (TJ6 b).2.1 := by decide +kernel
theorem tyJ6_ok : ∀ k, k < 0 → parseFieldDescriptor (TJ6 k).2.2.1 = some (tyJ6 k) := by decide +kernel
abbrev cJ6_getChars_ba4f3 : ByteArray := prog_27_method_12_code
def yJ6_getChars_ba4f3 : MethodName := ⟨RJ6, "getChars", "(II[B)I"⟩
abbrev cJ6_stringSize_0f7a4 : ByteArray := prog_27_method_13_code
def yJ6_stringSize_0f7a4 : MethodName := ⟨RJ6, "stringSize", "(I)I"⟩
abbrev cJ6_bitCount_0f7a4 : ByteArray := prog_27_method_49_code
def yJ6_bitCount_0f7a4 : MethodName := ⟨RJ6, "bitCount", "(I)I"⟩
def RJ9 : String := "java/lang/Math"
def TJ9 : u_T := fun k => match k with
  | _ => ("", "", "", false)
def tyJ9 : Nat → FieldType := fun k => match k with
  | _ => .int
abbrev wsJ90 : List Cond := u_ws RJ9 TJ9 0
theorem nmJ9 : ∀ a, a < 0 → ∀ b, b < 0 → a ≠ b → (TJ9 a).2.1 ≠ (TJ9 b).2.1 := by decide +kernel
theorem tyJ9_ok : ∀ k, k < 0 → parseFieldDescriptor (TJ9 k).2.2.1 = some (tyJ9 k) := by decide +kernel
abbrev cJ9_max_7cf53 : ByteArray := prog_28_method_65_code
def yJ9_max_7cf53 : MethodName := ⟨RJ9, "max", "(II)I"⟩
abbrev cJ9_min_7cf53 : ByteArray := prog_28_method_69_code
def yJ9_min_7cf53 : MethodName := ⟨RJ9, "min", "(II)I"⟩
def RJxd2413 : String := "java/lang/Number"
def TJxd2413 : u_T := fun k => match k with
  | _ => ("", "", "", false)
def tyJxd2413 : Nat → FieldType := fun k => match k with
  | _ => .int
abbrev wsJxd24130 : List Cond := u_ws RJxd2413 TJxd2413 0
theorem nmJxd2413 : ∀ a, a < 0 → ∀ b, b < 0 → a ≠ b → (TJxd2413 a).2.1 ≠ (TJxd2413 b).2.1 := by decide +kernel
theorem tyJxd2413_ok : ∀ k, k < 0 → parseFieldDescriptor (TJxd2413 k).2.2.1 = some (tyJxd2413 k) := by decide +kernel
def RJ0 : String := "java/lang/String"
def TJ0 : u_T := fun k => match k with
  | 0 => ("java/lang/String", "value", "[B", true)
  | 1 => ("java/lang/String", "coder", "B", true)
  | 2 => ("java/lang/String", "hash", "I", false)
  | _ => ("java/lang/String", "hashIsZero", "Z", false)
def tyJ0 : Nat → FieldType := fun k => match k with
  | 0 => .array .byte
  | 1 => .byte
  | 2 => .int
  | _ => .boolean
abbrev wsJ00 : List Cond := u_ws RJ0 TJ0 4
theorem nmJ0 : ∀ a, a < 4 → ∀ b, b < 4 → a ≠ b → (TJ0 a).2.1 ≠ (TJ0 b).2.1 := by decide +kernel
theorem tyJ0_ok : ∀ k, k < 4 → parseFieldDescriptor (TJ0 k).2.2.1 = some (tyJ0 k) := by decide +kernel
abbrev cJ0_init_81219 : ByteArray := prog_31_method_53_code
def yJ0_init_81219 : MethodName := ⟨RJ0, "<init>", "(Ljava/lang/StringBuilder;)V"⟩
abbrev cJ0_length_8abf5 : ByteArray := prog_31_method_54_code
def yJ0_length_8abf5 : MethodName := ⟨RJ0, "length", "()I"⟩
abbrev cJ0_charAt_5068e : ByteArray := prog_31_method_56_code
def yJ0_charAt_5068e : MethodName := ⟨RJ0, "charAt", "(I)C"⟩
abbrev cJ0_getBytes_840e7 : ByteArray := prog_31_method_147_code
def yJ0_getBytes_840e7 : MethodName := ⟨RJ0, "getBytes", "([BIB)V"⟩
abbrev cJ0_init_db425 : ByteArray := prog_31_method_150_code
def yJ0_init_db425 : MethodName := ⟨RJ0, "<init>", "(Ljava/lang/AbstractStringBuilder;Ljava/lang/Void;)V"⟩
abbrev cJ0_coder_7d493 : ByteArray := prog_31_method_152_code
def yJ0_coder_7d493 : MethodName := ⟨RJ0, "coder", "()B"⟩
abbrev cJ0_isLatin1_aae02 : ByteArray := prog_31_method_154_code
def yJ0_isLatin1_aae02 : MethodName := ⟨RJ0, "isLatin1", "()Z"⟩
abbrev cJ0_checkIndex_df160 : ByteArray := prog_31_method_155_code
def yJ0_checkIndex_df160 : MethodName := ⟨RJ0, "checkIndex", "(II)V"⟩
abbrev cJ0_checkBoundsOffCount_cabcc : ByteArray := prog_31_method_157_code
def yJ0_checkBoundsOffCount_cabcc : MethodName := ⟨RJ0, "checkBoundsOffCount", "(III)I"⟩
abbrev cJ0_checkBoundsBeginEnd_23922 : ByteArray := prog_31_method_158_code
def yJ0_checkBoundsBeginEnd_23922 : MethodName := ⟨RJ0, "checkBoundsBeginEnd", "(III)V"⟩
def RJ4 : String := "java/lang/StringBuilder"
def TJ4 : u_T := fun k => match k with
  | 0 => ("java/lang/AbstractStringBuilder", "value", "[B", false)
  | 1 => ("java/lang/AbstractStringBuilder", "coder", "B", false)
  | 2 => ("java/lang/AbstractStringBuilder", "maybeLatin1", "Z", false)
  | _ => ("java/lang/AbstractStringBuilder", "count", "I", false)
def tyJ4 : Nat → FieldType := fun k => match k with
  | 0 => .array .byte
  | 1 => .byte
  | 2 => .boolean
  | _ => .int
abbrev wsJ40 : List Cond := u_ws RJ4 TJ4 4
theorem nmJ4 : ∀ a, a < 4 → ∀ b, b < 4 → a ≠ b → (TJ4 a).2.1 ≠ (TJ4 b).2.1 := by decide +kernel
theorem tyJ4_ok : ∀ k, k < 4 → parseFieldDescriptor (TJ4 k).2.2.1 = some (tyJ4 k) := by decide +kernel
abbrev cJ4_init_da8c8 : ByteArray := prog_32_method_1_code
def yJ4_init_da8c8 : MethodName := ⟨RJ4, "<init>", "()V"⟩
abbrev cJ4_append_15ec4 : ByteArray := prog_32_method_7_code
def yJ4_append_15ec4 : MethodName := ⟨RJ4, "append", "(Ljava/lang/String;)Ljava/lang/StringBuilder;"⟩
abbrev cJ4_append_cf468 : ByteArray := prog_32_method_14_code
def yJ4_append_cf468 : MethodName := ⟨RJ4, "append", "(C)Ljava/lang/StringBuilder;"⟩
abbrev cJ4_append_bf812 : ByteArray := prog_32_method_15_code
def yJ4_append_bf812 : MethodName := ⟨RJ4, "append", "(I)Ljava/lang/StringBuilder;"⟩
abbrev cJ4_toString_0e30d : ByteArray := prog_32_method_42_code
def yJ4_toString_0e30d : MethodName := ⟨RJ4, "toString", "()Ljava/lang/String;"⟩
abbrev cJ4_charAt_5068e : ByteArray := prog_32_method_88_code
def yJ4_charAt_5068e : MethodName := ⟨RJ4, "charAt", "(I)C"⟩
abbrev cJ4_setLength_d00df : ByteArray := prog_32_method_89_code
def yJ4_setLength_d00df : MethodName := ⟨RJ4, "setLength", "(I)V"⟩
abbrev cJ4_length_8abf5 : ByteArray := prog_32_method_93_code
def yJ4_length_8abf5 : MethodName := ⟨RJ4, "length", "()I"⟩
def RJx7c733 : String := "java/lang/StringIndexOutOfBoundsException"
def TJx7c733 : u_T := fun k => match k with
  | 0 => ("java/lang/Throwable", "backtrace", "Ljava/lang/Object;", false)
  | 1 => ("java/lang/Throwable", "detailMessage", "Ljava/lang/String;", false)
  | 2 => ("java/lang/Throwable", "cause", "Ljava/lang/Throwable;", false)
  | 3 => ("java/lang/Throwable", "stackTrace", "[Ljava/lang/StackTraceElement;", false)
  | 4 => ("java/lang/Throwable", "depth", "I", false)
  | _ => ("java/lang/Throwable", "suppressedExceptions", "Ljava/util/List;", false)
def tyJx7c733 : Nat → FieldType := fun k => match k with
  | 0 => .object "java/lang/Object"
  | 1 => .object "java/lang/String"
  | 2 => .object "java/lang/Throwable"
  | 3 => .array (.object "java/lang/StackTraceElement")
  | 4 => .int
  | _ => .object "java/util/List"
abbrev wsJx7c7330 : List Cond := u_ws RJx7c733 TJx7c733 6
theorem nmJx7c733 : ∀ a, a < 6 → ∀ b, b < 6 → a ≠ b → (TJx7c733 a).2.1 ≠ (TJx7c733 b).2.1 := by decide +kernel
theorem tyJx7c733_ok : ∀ k, k < 6 → parseFieldDescriptor (TJx7c733 k).2.2.1 = some (tyJx7c733 k) := by decide +kernel
abbrev cJx7c733_init_d00df : ByteArray := prog_33_method_3_code
def yJx7c733_init_d00df : MethodName := ⟨RJx7c733, "<init>", "(I)V"⟩
def RJ1 : String := "java/lang/StringLatin1"
def TJ1 : u_T := fun k => match k with
  | _ => ("", "", "", false)
def tyJ1 : Nat → FieldType := fun k => match k with
  | _ => .int
abbrev wsJ10 : List Cond := u_ws RJ1 TJ1 0
theorem nmJ1 : ∀ a, a < 0 → ∀ b, b < 0 → a ≠ b → (TJ1 a).2.1 ≠ (TJ1 b).2.1 := by decide +kernel
theorem tyJ1_ok : ∀ k, k < 0 → parseFieldDescriptor (TJ1 k).2.2.1 = some (tyJ1 k) := by decide +kernel
abbrev cJ1_charAt_3b067 : ByteArray := prog_34_method_2_code
def yJ1_charAt_3b067 : MethodName := ⟨RJ1, "charAt", "([BI)C"⟩
abbrev cJ1_canEncode_fc78d : ByteArray := prog_34_method_3_code
def yJ1_canEncode_fc78d : MethodName := ⟨RJ1, "canEncode", "(C)Z"⟩
abbrev cJ1_fillNull_b72d1 : ByteArray := prog_34_method_48_code
def yJ1_fillNull_b72d1 : MethodName := ⟨RJ1, "fillNull", "([BII)V"⟩
abbrev cJ1_inflate_0e8fd : ByteArray := prog_34_method_50_code
def yJ1_inflate_0e8fd : MethodName := ⟨RJ1, "inflate", "([BI[BII)V"⟩
def RJ2 : String := "java/lang/StringUTF16"
def TJ2 : u_T := fun k => match k with
  | _ => ("", "", "", false)
def tyJ2 : Nat → FieldType := fun k => match k with
  | _ => .int
abbrev wsJ20 : List Cond := u_ws RJ2 TJ2 0
theorem nmJ2 : ∀ a, a < 0 → ∀ b, b < 0 → a ≠ b → (TJ2 a).2.1 ≠ (TJ2 b).2.1 := by decide +kernel
theorem tyJ2_ok : ∀ k, k < 0 → parseFieldDescriptor (TJ2 k).2.2.1 = some (tyJ2 k) := by decide +kernel
abbrev cJ2_newBytesFor_77867 : ByteArray := prog_35_method_2_code
def yJ2_newBytesFor_77867 : MethodName := ⟨RJ2, "newBytesFor", "(I)[B"⟩
abbrev cJ2_newBytesLength_0f7a4 : ByteArray := prog_35_method_3_code
def yJ2_newBytesLength_0f7a4 : MethodName := ⟨RJ2, "newBytesLength", "(I)I"⟩
abbrev cJ2_putChar_b72d1 : ByteArray := prog_35_method_4_code
def yJ2_putChar_b72d1 : MethodName := ⟨RJ2, "putChar", "([BII)V"⟩
abbrev cJ2_getChar_3b067 : ByteArray := prog_35_method_5_code
def yJ2_getChar_3b067 : MethodName := ⟨RJ2, "getChar", "([BI)C"⟩
abbrev cJ2_length_9d52b : ByteArray := prog_35_method_6_code
def yJ2_length_9d52b : MethodName := ⟨RJ2, "length", "([B)I"⟩
abbrev cJ2_coderFromArrayLen_85cad : ByteArray := prog_35_method_15_code
def yJ2_coderFromArrayLen_85cad : MethodName := ⟨RJ2, "coderFromArrayLen", "([BI)B"⟩
abbrev cJ2_compress_39247 : ByteArray := prog_35_method_17_code
def yJ2_compress_39247 : MethodName := ⟨RJ2, "compress", "([BII)[B"⟩
abbrev cJ2_compress_5af95 : ByteArray := prog_35_method_22_code
def yJ2_compress_5af95 : MethodName := ⟨RJ2, "compress", "([BI[BII)I"⟩
abbrev cJ2_fillNull_b72d1 : ByteArray := prog_35_method_70_code
def yJ2_fillNull_b72d1 : MethodName := ⟨RJ2, "fillNull", "([BII)V"⟩
abbrev cJ2_putCharSB_b72d1 : ByteArray := prog_35_method_71_code
def yJ2_putCharSB_b72d1 : MethodName := ⟨RJ2, "putCharSB", "([BII)V"⟩
abbrev cJ2_getChars_46870 : ByteArray := prog_35_method_77_code
def yJ2_getChars_46870 : MethodName := ⟨RJ2, "getChars", "(III[B)I"⟩
abbrev cJ2_putCharsAt_cd4e5 : ByteArray := prog_35_method_81_code
def yJ2_putCharsAt_cd4e5 : MethodName := ⟨RJ2, "putCharsAt", "([BICCCC)I"⟩
abbrev cJ2_charAt_3b067 : ByteArray := prog_35_method_83_code
def yJ2_charAt_3b067 : MethodName := ⟨RJ2, "charAt", "([BI)C"⟩
abbrev cJ2_inflate_0e8fd : ByteArray := prog_35_method_86_code
def yJ2_inflate_0e8fd : MethodName := ⟨RJ2, "inflate", "([BI[BII)V"⟩
abbrev cJ2_getChars_ba4f3 : ByteArray := prog_35_method_89_code
def yJ2_getChars_ba4f3 : MethodName := ⟨RJ2, "getChars", "(II[B)I"⟩
abbrev cJ2_checkIndex_2214a : ByteArray := prog_35_method_91_code
def yJ2_checkIndex_2214a : MethodName := ⟨RJ2, "checkIndex", "(I[B)V"⟩
abbrev cJ2_checkBoundsBeginEnd_d044e : ByteArray := prog_35_method_93_code
def yJ2_checkBoundsBeginEnd_d044e : MethodName := ⟨RJ2, "checkBoundsBeginEnd", "(II[B)V"⟩
abbrev cJ2_checkBoundsOffCount_d044e : ByteArray := prog_35_method_94_code
def yJ2_checkBoundsOffCount_d044e : MethodName := ⟨RJ2, "checkBoundsOffCount", "(II[B)V"⟩
def RJ10 : String := "java/lang/System"
def TJ10 : u_T := fun k => match k with
  | _ => ("", "", "", false)
def tyJ10 : Nat → FieldType := fun k => match k with
  | _ => .int
abbrev wsJ100 : List Cond := u_ws RJ10 TJ10 0
theorem nmJ10 : ∀ a, a < 0 → ∀ b, b < 0 → a ≠ b → (TJ10 a).2.1 ≠ (TJ10 b).2.1 := by decide +kernel
theorem tyJ10_ok : ∀ k, k < 0 → parseFieldDescriptor (TJ10 k).2.2.1 = some (tyJ10 k) := by decide +kernel
def RJxfd54e : String := "java/lang/constant/Constable"
def TJxfd54e : u_T := fun k => match k with
  | _ => ("", "", "", false)
def tyJxfd54e : Nat → FieldType := fun k => match k with
  | _ => .int
abbrev wsJxfd54e0 : List Cond := u_ws RJxfd54e TJxfd54e 0
theorem nmJxfd54e : ∀ a, a < 0 → ∀ b, b < 0 → a ≠ b → (TJxfd54e a).2.1 ≠ (TJxfd54e b).2.1 := by decide +kernel
theorem tyJxfd54e_ok : ∀ k, k < 0 → parseFieldDescriptor (TJxfd54e k).2.2.1 = some (tyJxfd54e k) := by decide +kernel
def RJx3cf43 : String := "java/lang/constant/ConstantDesc"
def TJx3cf43 : u_T := fun k => match k with
  | _ => ("", "", "", false)
def tyJx3cf43 : Nat → FieldType := fun k => match k with
  | _ => .int
abbrev wsJx3cf430 : List Cond := u_ws RJx3cf43 TJx3cf43 0
theorem nmJx3cf43 : ∀ a, a < 0 → ∀ b, b < 0 → a ≠ b → (TJx3cf43 a).2.1 ≠ (TJx3cf43 b).2.1 := by decide +kernel
theorem tyJx3cf43_ok : ∀ k, k < 0 → parseFieldDescriptor (TJx3cf43 k).2.2.1 = some (tyJx3cf43 k) := by decide +kernel
def RJ7 : String := "java/util/Arrays"
def TJ7 : u_T := fun k => match k with
  | _ => ("", "", "", false)
def tyJ7 : Nat → FieldType := fun k => match k with
  | _ => .int
abbrev wsJ70 : List Cond := u_ws RJ7 TJ7 0
theorem nmJ7 : ∀ a, a < 0 → ∀ b, b < 0 → a ≠ b → (TJ7 a).2.1 ≠ (TJ7 b).2.1 := by decide +kernel
theorem tyJ7_ok : ∀ k, k < 0 → parseFieldDescriptor (TJ7 k).2.2.1 = some (tyJ7 k) := by decide +kernel
abbrev cJ7_rangeCheck_23922 : ByteArray := prog_40_method_30_code
def yJ7_rangeCheck_23922 : MethodName := ⟨RJ7, "rangeCheck", "(III)V"⟩
abbrev cJ7_fill_53178 : ByteArray := prog_40_method_103_code
def yJ7_fill_53178 : MethodName := ⟨RJ7, "fill", "([II)V"⟩
abbrev cJ7_fill_eb02e : ByteArray := prog_40_method_110_code
def yJ7_fill_eb02e : MethodName := ⟨RJ7, "fill", "([BIIB)V"⟩
abbrev cJ7_copyOf_9075b : ByteArray := prog_40_method_121_code
def yJ7_copyOf_9075b : MethodName := ⟨RJ7, "copyOf", "([BI)[B"⟩
abbrev cJ7_checkLength_df160 : ByteArray := prog_40_method_131_code
def yJ7_checkLength_df160 : MethodName := ⟨RJ7, "checkLength", "(II)V"⟩
abbrev cJ7_copyOfRange_39247 : ByteArray := prog_40_method_132_code
def yJ7_copyOfRange_39247 : MethodName := ⟨RJ7, "copyOfRange", "([BII)[B"⟩
abbrev cJ7_copyOfRangeByte_39247 : ByteArray := prog_40_method_133_code
def yJ7_copyOfRangeByte_39247 : MethodName := ⟨RJ7, "copyOfRangeByte", "([BII)[B"⟩
def RJ8 : String := "jdk/internal/util/ArraysSupport"
def TJ8 : u_T := fun k => match k with
  | _ => ("", "", "", false)
def tyJ8 : Nat → FieldType := fun k => match k with
  | _ => .int
abbrev wsJ80 : List Cond := u_ws RJ8 TJ8 0
theorem nmJ8 : ∀ a, a < 0 → ∀ b, b < 0 → a ≠ b → (TJ8 a).2.1 ≠ (TJ8 b).2.1 := by decide +kernel
theorem tyJ8_ok : ∀ k, k < 0 → parseFieldDescriptor (TJ8 k).2.2.1 = some (tyJ8 k) := by decide +kernel
abbrev cJ8_newLength_cabcc : ByteArray := prog_42_method_27_code
def yJ8_newLength_cabcc : MethodName := ⟨RJ8, "newLength", "(III)I"⟩
abbrev cJ8_hugeLength_7cf53 : ByteArray := prog_42_method_28_code
def yJ8_hugeLength_7cf53 : MethodName := ⟨RJ8, "hugeLength", "(II)I"⟩
def RJ3 : String := "jdk/internal/util/Preconditions"
def TJ3 : u_T := fun k => match k with
  | _ => ("", "", "", false)
def tyJ3 : Nat → FieldType := fun k => match k with
  | _ => .int
abbrev wsJ30 : List Cond := u_ws RJ3 TJ3 0
theorem nmJ3 : ∀ a, a < 0 → ∀ b, b < 0 → a ≠ b → (TJ3 a).2.1 ≠ (TJ3 b).2.1 := by decide +kernel
theorem tyJ3_ok : ∀ k, k < 0 → parseFieldDescriptor (TJ3 k).2.2.1 = some (tyJ3 k) := by decide +kernel
abbrev cJ3_checkIndex_8e157 : ByteArray := prog_43_method_11_code
def yJ3_checkIndex_8e157 : MethodName := ⟨RJ3, "checkIndex", "(IILjava/util/function/BiFunction;)I"⟩
abbrev cJ3_checkFromToIndex_8c36e : ByteArray := prog_43_method_12_code
def yJ3_checkFromToIndex_8c36e : MethodName := ⟨RJ3, "checkFromToIndex", "(IIILjava/util/function/BiFunction;)I"⟩
abbrev cJ3_checkFromIndexSize_8c36e : ByteArray := prog_43_method_13_code
def yJ3_checkFromIndexSize_8c36e : MethodName := ⟨RJ3, "checkFromIndexSize", "(IIILjava/util/function/BiFunction;)I"⟩
def RL : String := "ArgumentMapLaw"
abbrev cL_cell : ByteArray := method_2_code
def yL_cell : MethodName := ⟨RL, "cell", "([II)I"⟩
abbrev cL_some : ByteArray := method_3_code
def yL_some : MethodName := ⟨RL, "some", "([III)I"⟩
abbrev cL_addArgument : ByteArray := method_4_code
def yL_addArgument : MethodName := ⟨RL, "addArgument", "(LArgumentMap;I)I"⟩
abbrev cL_removeArgument : ByteArray := method_5_code
def yL_removeArgument : MethodName := ⟨RL, "removeArgument", "(LArgumentMap;I)I"⟩
abbrev cL_addAttack : ByteArray := method_6_code
def yL_addAttack : MethodName := ⟨RL, "addAttack", "(LArgumentMap;II)I"⟩
abbrev cL_removeAttack : ByteArray := method_7_code
def yL_removeAttack : MethodName := ⟨RL, "removeAttack", "(LArgumentMap;II)I"⟩
abbrev cL_setWeight : ByteArray := method_8_code
def yL_setWeight : MethodName := ⟨RL, "setWeight", "(LArgumentMap;II)I"⟩
abbrev cL_renew : ByteArray := method_9_code
def yL_renew : MethodName := ⟨RL, "renew", "(LArgumentMap;I)I"⟩
abbrev cL_startDialogue : ByteArray := method_10_code
def yL_startDialogue : MethodName := ⟨RL, "startDialogue", "(LArgumentMap;I)I"⟩
abbrev cL_move : ByteArray := method_11_code
def yL_move : MethodName := ⟨RL, "move", "(LArgumentMap;I)I"⟩
abbrev cL_takeBack : ByteArray := method_12_code
def yL_takeBack : MethodName := ⟨RL, "takeBack", "(LArgumentMap;)I"⟩
abbrev cL_endDialogue : ByteArray := method_13_code
def yL_endDialogue : MethodName := ⟨RL, "endDialogue", "(LArgumentMap;)I"⟩
abbrev cL_pass : ByteArray := method_14_code
def yL_pass : MethodName := ⟨RL, "pass", "(LArgumentMap;I)I"⟩
abbrev cL_attackerAt : ByteArray := method_15_code
def yL_attackerAt : MethodName := ⟨RL, "attackerAt", "(LArgumentMap;II)I"⟩
abbrev cL_roundOf : ByteArray := method_16_code
def yL_roundOf : MethodName := ⟨RL, "roundOf", "(LArgumentMap;I)I"⟩
abbrev cL_statusAfter : ByteArray := method_17_code
def yL_statusAfter : MethodName := ⟨RL, "statusAfter", "(LArgumentMap;II)I"⟩
abbrev cL_argumentByStrength : ByteArray := method_18_code
def yL_argumentByStrength : MethodName := ⟨RL, "argumentByStrength", "(LArgumentMap;I)I"⟩
abbrev cL_moveAt : ByteArray := method_19_code
def yL_moveAt : MethodName := ⟨RL, "moveAt", "(LArgumentMap;I)I"⟩
abbrev cL_formatDialogue : ByteArray := method_20_code
def yL_formatDialogue : MethodName := ⟨RL, "formatDialogue", "(LArgumentMap;)I"⟩
abbrev cL_isSuccessful : ByteArray := method_21_code
def yL_isSuccessful : MethodName := ⟨RL, "isSuccessful", "(LArgumentMap;II)I"⟩
abbrev cL_canMove : ByteArray := method_22_code
def yL_canMove : MethodName := ⟨RL, "canMove", "(LArgumentMap;I)I"⟩
abbrev cL_build : ByteArray := method_23_code
def yL_build : MethodName := ⟨RL, "build", "(LArgumentMap;[I)V"⟩
abbrev cL_acts : ByteArray := method_24_code
def yL_acts : MethodName := ⟨RL, "acts", "(LArgumentMap;[II)V"⟩
abbrev cL_isLine : ByteArray := method_25_code
def yL_isLine : MethodName := ⟨RL, "isLine", "(LArgumentMap;ILjava/lang/String;)Z"⟩
abbrev cL_law : ByteArray := code
def yL_law : MethodName := ⟨RL, "law", "([I)Z"⟩
theorem inX0 : ∀ w ∈ wsX00, w ∈ lw_tbl := by decide +kernel
theorem inX1 : ∀ w ∈ wsX10, w ∈ lw_tbl := by decide +kernel
theorem inX2 : ∀ w ∈ wsX20, w ∈ lw_tbl := by decide +kernel
theorem inX3 : ∀ w ∈ wsX30, w ∈ lw_tbl := by decide +kernel
theorem inX4 : ∀ w ∈ wsX40, w ∈ lw_tbl := by decide +kernel
theorem inX5 : ∀ w ∈ wsX50, w ∈ lw_tbl := by decide +kernel
theorem inX6 : ∀ w ∈ wsX60, w ∈ lw_tbl := by decide +kernel
theorem inX7 : ∀ w ∈ wsX70, w ∈ lw_tbl := by decide +kernel
theorem inX8 : ∀ w ∈ wsX80, w ∈ lw_tbl := by decide +kernel
theorem inX9 : ∀ w ∈ wsX90, w ∈ lw_tbl := by decide +kernel
theorem inX10 : ∀ w ∈ wsX100, w ∈ lw_tbl := by decide +kernel
theorem inX11 : ∀ w ∈ wsX110, w ∈ lw_tbl := by decide +kernel
theorem inJx145de : ∀ w ∈ wsJx145de0, w ∈ lw_tbl := by decide +kernel
theorem inJ5 : ∀ w ∈ wsJ50, w ∈ lw_tbl := by decide +kernel
theorem inJx2cfe8 : ∀ w ∈ wsJx2cfe80, w ∈ lw_tbl := by decide +kernel
theorem inJx00060 : ∀ w ∈ wsJx000600, w ∈ lw_tbl := by decide +kernel
theorem inJx9f9b0 : ∀ w ∈ wsJx9f9b00, w ∈ lw_tbl := by decide +kernel
theorem inJx8e188 : ∀ w ∈ wsJx8e1880, w ∈ lw_tbl := by decide +kernel
theorem inJxb160c : ∀ w ∈ wsJxb160c0, w ∈ lw_tbl := by decide +kernel
theorem inJx29ce0 : ∀ w ∈ wsJx29ce00, w ∈ lw_tbl := by decide +kernel
theorem inJ6 : ∀ w ∈ wsJ60, w ∈ lw_tbl := by decide +kernel
theorem inJ9 : ∀ w ∈ wsJ90, w ∈ lw_tbl := by decide +kernel
theorem inJxd2413 : ∀ w ∈ wsJxd24130, w ∈ lw_tbl := by decide +kernel
theorem inJ0 : ∀ w ∈ wsJ00, w ∈ lw_tbl := by decide +kernel
theorem inJ4 : ∀ w ∈ wsJ40, w ∈ lw_tbl := by decide +kernel
theorem inJx7c733 : ∀ w ∈ wsJx7c7330, w ∈ lw_tbl := by decide +kernel
theorem inJ1 : ∀ w ∈ wsJ10, w ∈ lw_tbl := by decide +kernel
theorem inJ2 : ∀ w ∈ wsJ20, w ∈ lw_tbl := by decide +kernel
theorem inJ10 : ∀ w ∈ wsJ100, w ∈ lw_tbl := by decide +kernel
theorem inJxfd54e : ∀ w ∈ wsJxfd54e0, w ∈ lw_tbl := by decide +kernel
theorem inJx3cf43 : ∀ w ∈ wsJx3cf430, w ∈ lw_tbl := by decide +kernel
theorem inJ7 : ∀ w ∈ wsJ70, w ∈ lw_tbl := by decide +kernel
theorem inJ8 : ∀ w ∈ wsJ80, w ∈ lw_tbl := by decide +kernel
theorem inJ3 : ∀ w ∈ wsJ30, w ∈ lw_tbl := by decide +kernel
abbrev vwCl : List vw_C := [(RJ0, TJ0, 4), (RJ4, TJ4, 4), (RJx00060, TJx00060, 6), (RJx7c733, TJx7c733, 6), (RX2, TX2, 5), (RX3, TX3, 3), (RX4, TX4, 2), (RX5, TX5, 3), (RX6, TX6, 3), (RX7, TX7, 6), (RX8, TX8, 9), (RX10, TX10, 13)]
