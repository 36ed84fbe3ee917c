def RX0 : String := "AutoIndenter$Blocks"
def TX0 : u_T := fun k => match k with
  | 0 => ("AutoIndenter$Blocks", "rulesOf", "LAutoIndenter$Row;", true)
  | 1 => ("AutoIndenter$Blocks", "endsOf", "LAutoIndenter$Row;", true)
  | 2 => ("AutoIndenter$Blocks", "pairs", "LAutoIndenter$Row;", true)
  | 3 => ("AutoIndenter$Blocks", "openers", "LAutoIndenter$Row;", true)
  | 4 => ("AutoIndenter$Blocks", "closers", "LAutoIndenter$Row;", true)
  | 5 => ("AutoIndenter$Blocks", "levels", "LAutoIndenter$Row;", true)
  | 6 => ("AutoIndenter$Blocks", "offsets", "LAutoIndenter$Row;", true)
  | 7 => ("AutoIndenter$Blocks", "steps", "LAutoIndenter$Row;", true)
  | 8 => ("AutoIndenter$Blocks", "depths", "LAutoIndenter$Row;", true)
  | 9 => ("AutoIndenter$Blocks", "stacks", "LAutoIndenter$Row;", true)
  | 10 => ("AutoIndenter$Blocks", "stack", "LAutoIndenter$Row;", true)
  | 11 => ("AutoIndenter$Blocks", "height", "I", false)
  | 12 => ("AutoIndenter$Blocks", "strayCount", "I", false)
  | _ => ("AutoIndenter$Blocks", "lostCount", "I", false)
def tyX0 : Nat → FieldType := fun k => match k with
  | 0 => .object "AutoIndenter$Row"
  | 1 => .object "AutoIndenter$Row"
  | 2 => .object "AutoIndenter$Row"
  | 3 => .object "AutoIndenter$Row"
  | 4 => .object "AutoIndenter$Row"
  | 5 => .object "AutoIndenter$Row"
  | 6 => .object "AutoIndenter$Row"
  | 7 => .object "AutoIndenter$Row"
  | 8 => .object "AutoIndenter$Row"
  | 9 => .object "AutoIndenter$Row"
  | 10 => .object "AutoIndenter$Row"
  | 11 => .int
  | 12 => .int
  | _ => .int
abbrev wsX00 : List Cond := u_ws RX0 TX0 14
theorem nmX0 : ∀ a, a < 14 → ∀ b, b < 14 → a ≠ b → (TX0 a).2.1 ≠ (TX0 b).2.1 := by decide +kernel
theorem tyX0_ok : ∀ k, k < 14 → parseFieldDescriptor (TX0 k).2.2.1 = some (tyX0 k) := by decide +kernel
abbrev cX0_init : ByteArray := prog_2_method_1_code
def yX0_init : MethodName := ⟨RX0, "<init>", "()V"⟩
abbrev cX0_match : ByteArray := prog_2_method_2_code
def yX0_match : MethodName := ⟨RX0, "match", "(LAutoIndenter$State;LAutoIndenter$Tokens;)V"⟩
abbrev cX0_openBefore : ByteArray := prog_2_method_3_code
def yX0_openBefore : MethodName := ⟨RX0, "openBefore", "(II)I"⟩
abbrev cX0_saveStack : ByteArray := prog_2_method_4_code
def yX0_saveStack : MethodName := ⟨RX0, "saveStack", "(I)V"⟩
abbrev cX0_findRules : ByteArray := prog_2_method_5_code
def yX0_findRules : MethodName := ⟨RX0, "findRules", "(ILAutoIndenter$State;LAutoIndenter$Tokens;)V"⟩
abbrev cX0_close : ByteArray := prog_2_method_6_code
def yX0_close : MethodName := ⟨RX0, "close", "(ILAutoIndenter$Rules;)V"⟩
abbrev cX0_levelThatCloses : ByteArray := prog_2_method_7_code
def yX0_levelThatCloses : MethodName := ⟨RX0, "levelThatCloses", "(ILAutoIndenter$Rules;)I"⟩
abbrev cX0_open : ByteArray := prog_2_method_8_code
def yX0_open : MethodName := ⟨RX0, "open", "(ILAutoIndenter$Rules;LAutoIndenter$Tokens;)V"⟩
abbrev cX0_lastLeadingCloser : ByteArray := prog_2_method_9_code
def yX0_lastLeadingCloser : MethodName := ⟨RX0, "lastLeadingCloser", "(II)I"⟩
def RX1 : String := "AutoIndenter$Buffer"
def TX1 : u_T := fun k => match k with
  | 0 => ("AutoIndenter$Buffer", "count", "I", false)
  | _ => ("AutoIndenter$Buffer", "bytes", "LAutoIndenter$Row;", true)
def tyX1 : Nat → FieldType := fun k => match k with
  | 0 => .int
  | _ => .object "AutoIndenter$Row"
abbrev wsX10 : List Cond := u_ws RX1 TX1 2
theorem nmX1 : ∀ a, a < 2 → ∀ b, b < 2 → a ≠ b → (TX1 a).2.1 ≠ (TX1 b).2.1 := by decide +kernel
theorem tyX1_ok : ∀ k, k < 2 → parseFieldDescriptor (TX1 k).2.2.1 = some (tyX1 k) := by decide +kernel
abbrev cX1_init : ByteArray := prog_3_method_1_code
def yX1_init : MethodName := ⟨RX1, "<init>", "()V"⟩
abbrev cX1_add : ByteArray := prog_3_method_2_code
def yX1_add : MethodName := ⟨RX1, "add", "(I)V"⟩
abbrev cX1_byteOf : ByteArray := prog_3_method_3_code
def yX1_byteOf : MethodName := ⟨RX1, "byteOf", "(I)I"⟩
abbrev cX1_contentStart : ByteArray := prog_3_method_4_code
def yX1_contentStart : MethodName := ⟨RX1, "contentStart", "()I"⟩
abbrev cX1_contentEnd : ByteArray := prog_3_method_5_code
def yX1_contentEnd : MethodName := ⟨RX1, "contentEnd", "()I"⟩
abbrev cX1_isLine : ByteArray := prog_3_method_6_code
def yX1_isLine : MethodName := ⟨RX1, "isLine", "()Z"⟩
abbrev cX1_writeLine : ByteArray := prog_3_method_7_code
def yX1_writeLine : MethodName := ⟨RX1, "writeLine", "(LAutoIndenter$Lines;I)V"⟩
def RX2 : String := "AutoIndenter$History"
def TX2 : u_T := fun k => match k with
  | 0 => ("AutoIndenter$History", "count", "I", false)
  | 1 => ("AutoIndenter$History", "oldest", "I", false)
  | _ => ("AutoIndenter$History", "ring", "[LAutoIndenter$State;", true)
def tyX2 : Nat → FieldType := fun k => match k with
  | 0 => .int
  | 1 => .int
  | _ => .array (.object "AutoIndenter$State")
abbrev wsX20 : List Cond := u_ws RX2 TX2 3
theorem nmX2 : ∀ a, a < 3 → ∀ b, b < 3 → a ≠ b → (TX2 a).2.1 ≠ (TX2 b).2.1 := by decide +kernel
theorem tyX2_ok : ∀ k, k < 3 → parseFieldDescriptor (TX2 k).2.2.1 = some (tyX2 k) := by decide +kernel
abbrev cX2_init : ByteArray := prog_4_method_1_code
def yX2_init : MethodName := ⟨RX2, "<init>", "()V"⟩
abbrev cX2_remember : ByteArray := prog_4_method_2_code
def yX2_remember : MethodName := ⟨RX2, "remember", "(LAutoIndenter$State;)V"⟩
abbrev cX2_takeLatest : ByteArray := prog_4_method_3_code
def yX2_takeLatest : MethodName := ⟨RX2, "takeLatest", "(LAutoIndenter$State;)V"⟩
abbrev cX2_at : ByteArray := prog_4_method_4_code
def yX2_at : MethodName := ⟨RX2, "at", "(I)LAutoIndenter$State;"⟩
def RX3 : String := "AutoIndenter$Lines"
def TX3 : u_T := fun k => match k with
  | 0 => ("AutoIndenter$Lines", "count", "I", false)
  | 1 => ("AutoIndenter$Lines", "indents", "LAutoIndenter$Row;", true)
  | 2 => ("AutoIndenter$Lines", "sizes", "LAutoIndenter$Row;", true)
  | 3 => ("AutoIndenter$Lines", "pins", "LAutoIndenter$Row;", true)
  | _ => ("AutoIndenter$Lines", "bytes", "LAutoIndenter$Row;", true)
def tyX3 : Nat → FieldType := fun k => match k with
  | 0 => .int
  | 1 => .object "AutoIndenter$Row"
  | 2 => .object "AutoIndenter$Row"
  | 3 => .object "AutoIndenter$Row"
  | _ => .object "AutoIndenter$Row"
abbrev wsX30 : List Cond := u_ws RX3 TX3 5
theorem nmX3 : ∀ a, a < 5 → ∀ b, b < 5 → a ≠ b → (TX3 a).2.1 ≠ (TX3 b).2.1 := by decide +kernel
theorem tyX3_ok : ∀ k, k < 5 → parseFieldDescriptor (TX3 k).2.2.1 = some (tyX3 k) := by decide +kernel
abbrev cX3_init : ByteArray := prog_5_method_1_code
def yX3_init : MethodName := ⟨RX3, "<init>", "()V"⟩
abbrev cX3_has : ByteArray := prog_5_method_2_code
def yX3_has : MethodName := ⟨RX3, "has", "(I)Z"⟩
abbrev cX3_hasRange : ByteArray := prog_5_method_3_code
def yX3_hasRange : MethodName := ⟨RX3, "hasRange", "(II)Z"⟩
abbrev cX3_byteOf : ByteArray := prog_5_method_4_code
def yX3_byteOf : MethodName := ⟨RX3, "byteOf", "(II)I"⟩
abbrev cX3_append : ByteArray := prog_5_method_5_code
def yX3_append : MethodName := ⟨RX3, "append", "(II)V"⟩
abbrev cX3_appendFrom : ByteArray := prog_5_method_6_code
def yX3_appendFrom : MethodName := ⟨RX3, "appendFrom", "(III)V"⟩
abbrev cX3_openGap : ByteArray := prog_5_method_7_code
def yX3_openGap : MethodName := ⟨RX3, "openGap", "(I)V"⟩
abbrev cX3_closeGap : ByteArray := prog_5_method_8_code
def yX3_closeGap : MethodName := ⟨RX3, "closeGap", "(I)V"⟩
abbrev cX3_copyLine : ByteArray := prog_5_method_9_code
def yX3_copyLine : MethodName := ⟨RX3, "copyLine", "(II)V"⟩
abbrev cX3_split : ByteArray := prog_5_method_10_code
def yX3_split : MethodName := ⟨RX3, "split", "(II)V"⟩
abbrev cX3_joinedSize : ByteArray := prog_5_method_11_code
def yX3_joinedSize : MethodName := ⟨RX3, "joinedSize", "(I)I"⟩
abbrev cX3_join : ByteArray := prog_5_method_12_code
def yX3_join : MethodName := ⟨RX3, "join", "(I)V"⟩
abbrev cX3_canMove : ByteArray := prog_5_method_13_code
def yX3_canMove : MethodName := ⟨RX3, "canMove", "(III)Z"⟩
abbrev cX3_move : ByteArray := prog_5_method_14_code
def yX3_move : MethodName := ⟨RX3, "move", "(III)I"⟩
abbrev cX3_copy : ByteArray := prog_5_method_15_code
def yX3_copy : MethodName := ⟨RX3, "copy", "(LAutoIndenter$Lines;)V"⟩
def RX4 : String := "AutoIndenter$Plan"
def TX4 : u_T := fun k => match k with
  | 0 => ("AutoIndenter$Plan", "reasons", "LAutoIndenter$Row;", true)
  | 1 => ("AutoIndenter$Plan", "deciders", "LAutoIndenter$Row;", true)
  | 2 => ("AutoIndenter$Plan", "anchors", "LAutoIndenter$Row;", true)
  | 3 => ("AutoIndenter$Plan", "offsets", "LAutoIndenter$Row;", true)
  | 4 => ("AutoIndenter$Plan", "steps", "LAutoIndenter$Row;", true)
  | _ => ("AutoIndenter$Plan", "extras", "LAutoIndenter$Row;", true)
def tyX4 : Nat → FieldType := fun k => match k with
  | 0 => .object "AutoIndenter$Row"
  | 1 => .object "AutoIndenter$Row"
  | 2 => .object "AutoIndenter$Row"
  | 3 => .object "AutoIndenter$Row"
  | 4 => .object "AutoIndenter$Row"
  | _ => .object "AutoIndenter$Row"
abbrev wsX40 : List Cond := u_ws RX4 TX4 6
theorem nmX4 : ∀ a, a < 6 → ∀ b, b < 6 → a ≠ b → (TX4 a).2.1 ≠ (TX4 b).2.1 := by decide +kernel
theorem tyX4_ok : ∀ k, k < 6 → parseFieldDescriptor (TX4 k).2.2.1 = some (tyX4 k) := by decide +kernel
abbrev cX4_init : ByteArray := prog_6_method_1_code
def yX4_init : MethodName := ⟨RX4, "<init>", "()V"⟩
abbrev cX4_make : ByteArray := prog_6_method_2_code
def yX4_make : MethodName := ⟨RX4, "make", "(LAutoIndenter$State;LAutoIndenter$Tokens;LAutoIndenter$Blocks;)V"⟩
abbrev cX4_column : ByteArray := prog_6_method_3_code
def yX4_column : MethodName := ⟨RX4, "column", "(ILAutoIndenter$Row;II)I"⟩
abbrev cX4_decide : ByteArray := prog_6_method_4_code
def yX4_decide : MethodName := ⟨RX4, "decide", "(ILAutoIndenter$Rules;LAutoIndenter$Tokens;LAutoIndenter$Blocks;)V"⟩
abbrev cX4_joinerBehind : ByteArray := prog_6_method_5_code
def yX4_joinerBehind : MethodName := ⟨RX4, "joinerBehind", "(ILAutoIndenter$Rules;LAutoIndenter$Blocks;)I"⟩
abbrev cX4_standOnGround : ByteArray := prog_6_method_6_code
def yX4_standOnGround : MethodName := ⟨RX4, "standOnGround", "(IILAutoIndenter$Tokens;LAutoIndenter$Blocks;)V"⟩
abbrev cX4_addSteps : ByteArray := prog_6_method_7_code
def yX4_addSteps : MethodName := ⟨RX4, "addSteps", "(IIILAutoIndenter$Rules;)V"⟩
abbrev cX4_standByClosed : ByteArray := prog_6_method_8_code
def yX4_standByClosed : MethodName := ⟨RX4, "standByClosed", "(IIILAutoIndenter$Tokens;LAutoIndenter$Blocks;)V"⟩
def RX5 : String := "AutoIndenter$Row"
def TX5 : u_T := fun k => match k with
  | _ => ("AutoIndenter$Row", "cells", "[I", true)
def tyX5 : Nat → FieldType := fun k => match k with
  | _ => .array .int
abbrev wsX50 : List Cond := u_ws RX5 TX5 1
theorem nmX5 : ∀ a, a < 1 → ∀ b, b < 1 → a ≠ b → (TX5 a).2.1 ≠ (TX5 b).2.1 := by decide +kernel
theorem tyX5_ok : ∀ k, k < 1 → parseFieldDescriptor (TX5 k).2.2.1 = some (tyX5 k) := by decide +kernel
abbrev cX5_init : ByteArray := prog_7_method_1_code
def yX5_init : MethodName := ⟨RX5, "<init>", "(I)V"⟩
abbrev cX5_get : ByteArray := prog_7_method_2_code
def yX5_get : MethodName := ⟨RX5, "get", "(I)I"⟩
abbrev cX5_set : ByteArray := prog_7_method_3_code
def yX5_set : MethodName := ⟨RX5, "set", "(II)V"⟩
abbrev cX5_copy : ByteArray := prog_7_method_4_code
def yX5_copy : MethodName := ⟨RX5, "copy", "(LAutoIndenter$Row;)V"⟩
def RX6 : String := "AutoIndenter$RuleTexts"
def TX6 : u_T := fun k => match k with
  | 0 => ("AutoIndenter$RuleTexts", "starts", "LAutoIndenter$Row;", true)
  | 1 => ("AutoIndenter$RuleTexts", "ends", "LAutoIndenter$Row;", true)
  | _ => ("AutoIndenter$RuleTexts", "found", "I", false)
def tyX6 : Nat → FieldType := fun k => match k with
  | 0 => .object "AutoIndenter$Row"
  | 1 => .object "AutoIndenter$Row"
  | _ => .int
abbrev wsX60 : List Cond := u_ws RX6 TX6 3
theorem nmX6 : ∀ a, a < 3 → ∀ b, b < 3 → a ≠ b → (TX6 a).2.1 ≠ (TX6 b).2.1 := by decide +kernel
theorem tyX6_ok : ∀ k, k < 3 → parseFieldDescriptor (TX6 k).2.2.1 = some (tyX6 k) := by decide +kernel
abbrev cX6_init : ByteArray := prog_8_method_1_code
def yX6_init : MethodName := ⟨RX6, "<init>", "()V"⟩
abbrev cX6_find : ByteArray := prog_8_method_2_code
def yX6_find : MethodName := ⟨RX6, "find", "(LAutoIndenter$Buffer;I)I"⟩
abbrev cX6_textEnd : ByteArray := prog_8_method_3_code
def yX6_textEnd : MethodName := ⟨RX6, "textEnd", "(LAutoIndenter$Buffer;I)I"⟩
abbrev cX6_write : ByteArray := prog_8_method_4_code
def yX6_write : MethodName := ⟨RX6, "write", "(LAutoIndenter$Buffer;LAutoIndenter$Rules;I)V"⟩
def RX7 : String := "AutoIndenter$Rules"
def TX7 : u_T := fun k => match k with
  | 0 => ("AutoIndenter$Rules", "sorts", "LAutoIndenter$Row;", true)
  | 1 => ("AutoIndenter$Rules", "precedences", "LAutoIndenter$Row;", true)
  | 2 => ("AutoIndenter$Rules", "steps", "LAutoIndenter$Row;", true)
  | 3 => ("AutoIndenter$Rules", "modes", "LAutoIndenter$Row;", true)
  | 4 => ("AutoIndenter$Rules", "closings", "LAutoIndenter$Row;", true)
  | 5 => ("AutoIndenter$Rules", "textSizes", "LAutoIndenter$Row;", true)
  | _ => ("AutoIndenter$Rules", "textBytes", "LAutoIndenter$Row;", true)
def tyX7 : Nat → FieldType := fun k => match k with
  | 0 => .object "AutoIndenter$Row"
  | 1 => .object "AutoIndenter$Row"
  | 2 => .object "AutoIndenter$Row"
  | 3 => .object "AutoIndenter$Row"
  | 4 => .object "AutoIndenter$Row"
  | 5 => .object "AutoIndenter$Row"
  | _ => .object "AutoIndenter$Row"
abbrev wsX70 : List Cond := u_ws RX7 TX7 7
theorem nmX7 : ∀ a, a < 7 → ∀ b, b < 7 → a ≠ b → (TX7 a).2.1 ≠ (TX7 b).2.1 := by decide +kernel
theorem tyX7_ok : ∀ k, k < 7 → parseFieldDescriptor (TX7 k).2.2.1 = some (tyX7 k) := by decide +kernel
abbrev cX7_init : ByteArray := prog_9_method_1_code
def yX7_init : MethodName := ⟨RX7, "<init>", "()V"⟩
abbrev cX7_has : ByteArray := prog_9_method_2_code
def yX7_has : MethodName := ⟨RX7, "has", "(I)Z"⟩
abbrev cX7_size : ByteArray := prog_9_method_3_code
def yX7_size : MethodName := ⟨RX7, "size", "()I"⟩
abbrev cX7_put : ByteArray := prog_9_method_4_code
def yX7_put : MethodName := ⟨RX7, "put", "(IIII)V"⟩
abbrev cX7_appendText : ByteArray := prog_9_method_5_code
def yX7_appendText : MethodName := ⟨RX7, "appendText", "(III)V"⟩
abbrev cX7_hasText : ByteArray := prog_9_method_6_code
def yX7_hasText : MethodName := ⟨RX7, "hasText", "(IILAutoIndenter$Lines;III)Z"⟩
abbrev cX7_best : ByteArray := prog_9_method_7_code
def yX7_best : MethodName := ⟨RX7, "best", "(II)I"⟩
abbrev cX7_beats : ByteArray := prog_9_method_8_code
def yX7_beats : MethodName := ⟨RX7, "beats", "(II)Z"⟩
abbrev cX7_mixRule : ByteArray := prog_9_method_9_code
def yX7_mixRule : MethodName := ⟨RX7, "mixRule", "(JI)J"⟩
abbrev cX7_mixText : ByteArray := prog_9_method_10_code
def yX7_mixText : MethodName := ⟨RX7, "mixText", "(JI)J"⟩
abbrev cX7_copy : ByteArray := prog_9_method_11_code
def yX7_copy : MethodName := ⟨RX7, "copy", "(LAutoIndenter$Rules;)V"⟩
def RX8 : String := "AutoIndenter$State"
def TX8 : u_T := fun k => match k with
  | 0 => ("AutoIndenter$State", "text", "LAutoIndenter$Lines;", true)
  | 1 => ("AutoIndenter$State", "rules", "LAutoIndenter$Rules;", true)
  | 2 => ("AutoIndenter$State", "step", "I", false)
  | 3 => ("AutoIndenter$State", "base", "I", false)
  | _ => ("AutoIndenter$State", "comment", "I", false)
def tyX8 : Nat → FieldType := fun k => match k with
  | 0 => .object "AutoIndenter$Lines"
  | 1 => .object "AutoIndenter$Rules"
  | 2 => .int
  | 3 => .int
  | _ => .int
abbrev wsX80 : List Cond := u_ws RX8 TX8 5
theorem nmX8 : ∀ a, a < 5 → ∀ b, b < 5 → a ≠ b → (TX8 a).2.1 ≠ (TX8 b).2.1 := by decide +kernel
theorem tyX8_ok : ∀ k, k < 5 → parseFieldDescriptor (TX8 k).2.2.1 = some (tyX8 k) := by decide +kernel
abbrev cX8_init : ByteArray := prog_10_method_1_code
def yX8_init : MethodName := ⟨RX8, "<init>", "()V"⟩
abbrev cX8_copy : ByteArray := prog_10_method_2_code
def yX8_copy : MethodName := ⟨RX8, "copy", "(LAutoIndenter$State;)V"⟩
def RX9 : String := "AutoIndenter$Tokens"
def TX9 : u_T := fun k => match k with
  | 0 => ("AutoIndenter$Tokens", "count", "I", false)
  | 1 => ("AutoIndenter$Tokens", "homes", "LAutoIndenter$Row;", true)
  | 2 => ("AutoIndenter$Tokens", "starts", "LAutoIndenter$Row;", true)
  | 3 => ("AutoIndenter$Tokens", "sizes", "LAutoIndenter$Row;", true)
  | 4 => ("AutoIndenter$Tokens", "kinds", "LAutoIndenter$Row;", true)
  | 5 => ("AutoIndenter$Tokens", "firsts", "LAutoIndenter$Row;", true)
  | 6 => ("AutoIndenter$Tokens", "guards", "LAutoIndenter$Row;", true)
  | 7 => ("AutoIndenter$Tokens", "content", "LAutoIndenter$Row;", true)
  | 8 => ("AutoIndenter$Tokens", "lineSize", "I", false)
  | _ => ("AutoIndenter$Tokens", "inLiteral", "Z", false)
def tyX9 : Nat → FieldType := fun k => match k with
  | 0 => .int
  | 1 => .object "AutoIndenter$Row"
  | 2 => .object "AutoIndenter$Row"
  | 3 => .object "AutoIndenter$Row"
  | 4 => .object "AutoIndenter$Row"
  | 5 => .object "AutoIndenter$Row"
  | 6 => .object "AutoIndenter$Row"
  | 7 => .object "AutoIndenter$Row"
  | 8 => .int
  | _ => .boolean
abbrev wsX90 : List Cond := u_ws RX9 TX9 10
theorem nmX9 : ∀ a, a < 10 → ∀ b, b < 10 → a ≠ b → (TX9 a).2.1 ≠ (TX9 b).2.1 := by decide +kernel
theorem tyX9_ok : ∀ k, k < 10 → parseFieldDescriptor (TX9 k).2.2.1 = some (tyX9 k) := by decide +kernel
abbrev cX9_init : ByteArray := prog_11_method_1_code
def yX9_init : MethodName := ⟨RX9, "<init>", "()V"⟩
abbrev cX9_divide : ByteArray := prog_11_method_2_code
def yX9_divide : MethodName := ⟨RX9, "divide", "(LAutoIndenter$Lines;I)V"⟩
abbrev cX9_countIn : ByteArray := prog_11_method_3_code
def yX9_countIn : MethodName := ⟨RX9, "countIn", "(I)I"⟩
abbrev cX9_load : ByteArray := prog_11_method_4_code
def yX9_load : MethodName := ⟨RX9, "load", "(LAutoIndenter$Lines;I)V"⟩
abbrev cX9_divideLine : ByteArray := prog_11_method_5_code
def yX9_divideLine : MethodName := ⟨RX9, "divideLine", "(II)V"⟩
abbrev cX9_add : ByteArray := prog_11_method_6_code
def yX9_add : MethodName := ⟨RX9, "add", "(IIII)V"⟩
abbrev cX9_wordEnd : ByteArray := prog_11_method_7_code
def yX9_wordEnd : MethodName := ⟨RX9, "wordEnd", "(I)I"⟩
abbrev cX9_threeQuotesAt : ByteArray := prog_11_method_8_code
def yX9_threeQuotesAt : MethodName := ⟨RX9, "threeQuotesAt", "(I)Z"⟩
abbrev cX9_literalEnd : ByteArray := prog_11_method_9_code
def yX9_literalEnd : MethodName := ⟨RX9, "literalEnd", "(I)I"⟩
abbrev cX9_stringEnd : ByteArray := prog_11_method_10_code
def yX9_stringEnd : MethodName := ⟨RX9, "stringEnd", "(I)I"⟩
def RX10 : String := "AutoIndenter$Vocabulary"
def TX10 : u_T := fun k => match k with
  | 0 => ("AutoIndenter$Vocabulary", "size", "I", false)
  | 1 => ("AutoIndenter$Vocabulary", "samples", "LAutoIndenter$Row;", true)
  | _ => ("AutoIndenter$Vocabulary", "uses", "LAutoIndenter$Row;", true)
def tyX10 : Nat → FieldType := fun k => match k with
  | 0 => .int
  | 1 => .object "AutoIndenter$Row"
  | _ => .object "AutoIndenter$Row"
abbrev wsX100 : List Cond := u_ws RX10 TX10 3
theorem nmX10 : ∀ a, a < 3 → ∀ b, b < 3 → a ≠ b → (TX10 a).2.1 ≠ (TX10 b).2.1 := by decide +kernel
theorem tyX10_ok : ∀ k, k < 3 → parseFieldDescriptor (TX10 k).2.2.1 = some (tyX10 k) := by decide +kernel
abbrev cX10_init : ByteArray := prog_12_method_1_code
def yX10_init : MethodName := ⟨RX10, "<init>", "()V"⟩
abbrev cX10_count : ByteArray := prog_12_method_2_code
def yX10_count : MethodName := ⟨RX10, "count", "(LAutoIndenter$Lines;LAutoIndenter$Tokens;)V"⟩
abbrev cX10_countToken : ByteArray := prog_12_method_3_code
def yX10_countToken : MethodName := ⟨RX10, "countToken", "(ILAutoIndenter$Lines;LAutoIndenter$Tokens;)V"⟩
abbrev cX10_sameText : ByteArray := prog_12_method_4_code
def yX10_sameText : MethodName := ⟨RX10, "sameText", "(IILAutoIndenter$Lines;LAutoIndenter$Tokens;)Z"⟩
abbrev cX10_commonest : ByteArray := prog_12_method_5_code
def yX10_commonest : MethodName := ⟨RX10, "commonest", "()I"⟩
def RX11 : String := "AutoIndenter"
def TX11 : u_T := fun k => match k with
  | 0 => ("AutoIndenter", "now", "LAutoIndenter$State;", true)
  | 1 => ("AutoIndenter", "buffer", "LAutoIndenter$Buffer;", true)
  | 2 => ("AutoIndenter", "ruleTexts", "LAutoIndenter$RuleTexts;", true)
  | 3 => ("AutoIndenter", "history", "LAutoIndenter$History;", true)
  | 4 => ("AutoIndenter", "images", "[LAutoIndenter$State;", true)
  | 5 => ("AutoIndenter", "imageThere", "LAutoIndenter$Row;", true)
  | 6 => ("AutoIndenter", "division", "LAutoIndenter$Tokens;", true)
  | 7 => ("AutoIndenter", "blocks", "LAutoIndenter$Blocks;", true)
  | 8 => ("AutoIndenter", "plan", "LAutoIndenter$Plan;", true)
  | 9 => ("AutoIndenter", "words", "LAutoIndenter$Vocabulary;", true)
  | 10 => ("AutoIndenter", "trial", "LAutoIndenter$Row;", true)
  | _ => ("AutoIndenter", "studied", "Z", false)
def tyX11 : Nat → FieldType := fun k => match k with
  | 0 => .object "AutoIndenter$State"
  | 1 => .object "AutoIndenter$Buffer"
  | 2 => .object "AutoIndenter$RuleTexts"
  | 3 => .object "AutoIndenter$History"
  | 4 => .array (.object "AutoIndenter$State")
  | 5 => .object "AutoIndenter$Row"
  | 6 => .object "AutoIndenter$Tokens"
  | 7 => .object "AutoIndenter$Blocks"
  | 8 => .object "AutoIndenter$Plan"
  | 9 => .object "AutoIndenter$Vocabulary"
  | 10 => .object "AutoIndenter$Row"
  | _ => .boolean
abbrev wsX110 : List Cond := u_ws RX11 TX11 12
theorem nmX11 : ∀ a, a < 12 → ∀ b, b < 12 → a ≠ b → (TX11 a).2.1 ≠ (TX11 b).2.1 := by decide +kernel
theorem tyX11_ok : ∀ k, k < 12 → parseFieldDescriptor (TX11 k).2.2.1 = some (tyX11 k) := by decide +kernel
abbrev cX11_init : ByteArray := prog_1_method_1_code
def yX11_init : MethodName := ⟨RX11, "<init>", "()V"⟩
abbrev cX11_type : ByteArray := prog_1_method_2_code
def yX11_type : MethodName := ⟨RX11, "type", "(I)I"⟩
abbrev cX11_clear : ByteArray := prog_1_method_3_code
def yX11_clear : MethodName := ⟨RX11, "clear", "()I"⟩
abbrev cX11_insertLine : ByteArray := prog_1_method_4_code
def yX11_insertLine : MethodName := ⟨RX11, "insertLine", "(I)I"⟩
abbrev cX11_replaceLine : ByteArray := prog_1_method_5_code
def yX11_replaceLine : MethodName := ⟨RX11, "replaceLine", "(I)I"⟩
abbrev cX11_removeLine : ByteArray := prog_1_method_6_code
def yX11_removeLine : MethodName := ⟨RX11, "removeLine", "(I)I"⟩
abbrev cX11_splitLine : ByteArray := prog_1_method_7_code
def yX11_splitLine : MethodName := ⟨RX11, "splitLine", "(II)I"⟩
abbrev cX11_joinLines : ByteArray := prog_1_method_8_code
def yX11_joinLines : MethodName := ⟨RX11, "joinLines", "(I)I"⟩
abbrev cX11_shift : ByteArray := prog_1_method_9_code
def yX11_shift : MethodName := ⟨RX11, "shift", "(III)I"⟩
abbrev cX11_pin : ByteArray := prog_1_method_10_code
def yX11_pin : MethodName := ⟨RX11, "pin", "(I)I"⟩
abbrev cX11_reindent : ByteArray := prog_1_method_11_code
def yX11_reindent : MethodName := ⟨RX11, "reindent", "(II)I"⟩
abbrev cX11_lines : ByteArray := prog_1_method_12_code
def yX11_lines : MethodName := ⟨RX11, "lines", "()I"⟩
abbrev cX11_indentation : ByteArray := prog_1_method_13_code
def yX11_indentation : MethodName := ⟨RX11, "indentation", "(I)I"⟩
abbrev cX11_length : ByteArray := prog_1_method_14_code
def yX11_length : MethodName := ⟨RX11, "length", "(I)I"⟩
abbrev cX11_byteAt : ByteArray := prog_1_method_15_code
def yX11_byteAt : MethodName := ⟨RX11, "byteAt", "(II)I"⟩
abbrev cX11_isProtected : ByteArray := prog_1_method_16_code
def yX11_isProtected : MethodName := ⟨RX11, "isProtected", "(I)I"⟩
abbrev cX11_isPinned : ByteArray := prog_1_method_17_code
def yX11_isPinned : MethodName := ⟨RX11, "isPinned", "(I)I"⟩
abbrev cX11_setStep : ByteArray := prog_1_method_18_code
def yX11_setStep : MethodName := ⟨RX11, "setStep", "(I)I"⟩
abbrev cX11_setBase : ByteArray := prog_1_method_19_code
def yX11_setBase : MethodName := ⟨RX11, "setBase", "(I)I"⟩
abbrev cX11_setComment : ByteArray := prog_1_method_20_code
def yX11_setComment : MethodName := ⟨RX11, "setComment", "(I)I"⟩
abbrev cX11_pair : ByteArray := prog_1_method_21_code
def yX11_pair : MethodName := ⟨RX11, "pair", "(IIIII)I"⟩
abbrev cX11_starter : ByteArray := prog_1_method_22_code
def yX11_starter : MethodName := ⟨RX11, "starter", "(III)I"⟩
abbrev cX11_joiner : ByteArray := prog_1_method_23_code
def yX11_joiner : MethodName := ⟨RX11, "joiner", "(III)I"⟩
abbrev cX11_dropRule : ByteArray := prog_1_method_24_code
def yX11_dropRule : MethodName := ⟨RX11, "dropRule", "(I)I"⟩
abbrev cX11_wanted : ByteArray := prog_1_method_25_code
def yX11_wanted : MethodName := ⟨RX11, "wanted", "(I)I"⟩
abbrev cX11_reason : ByteArray := prog_1_method_26_code
def yX11_reason : MethodName := ⟨RX11, "reason", "(I)I"⟩
abbrev cX11_decidingRule : ByteArray := prog_1_method_27_code
def yX11_decidingRule : MethodName := ⟨RX11, "decidingRule", "(I)I"⟩
abbrev cX11_wouldChange : ByteArray := prog_1_method_28_code
def yX11_wouldChange : MethodName := ⟨RX11, "wouldChange", "()I"⟩
abbrev cX11_changesWith : ByteArray := prog_1_method_29_code
def yX11_changesWith : MethodName := ⟨RX11, "changesWith", "(II)I"⟩
abbrev cX11_fewestChanges : ByteArray := prog_1_method_30_code
def yX11_fewestChanges : MethodName := ⟨RX11, "fewestChanges", "()I"⟩
abbrev cX11_bestStep : ByteArray := prog_1_method_31_code
def yX11_bestStep : MethodName := ⟨RX11, "bestStep", "()I"⟩
abbrev cX11_bestBase : ByteArray := prog_1_method_32_code
def yX11_bestBase : MethodName := ⟨RX11, "bestBase", "()I"⟩
abbrev cX11_tokens : ByteArray := prog_1_method_33_code
def yX11_tokens : MethodName := ⟨RX11, "tokens", "(I)I"⟩
abbrev cX11_tokenAt : ByteArray := prog_1_method_34_code
def yX11_tokenAt : MethodName := ⟨RX11, "tokenAt", "(II)I"⟩
abbrev cX11_tokenLength : ByteArray := prog_1_method_35_code
def yX11_tokenLength : MethodName := ⟨RX11, "tokenLength", "(II)I"⟩
abbrev cX11_tokenKind : ByteArray := prog_1_method_36_code
def yX11_tokenKind : MethodName := ⟨RX11, "tokenKind", "(II)I"⟩
abbrev cX11_openedBy : ByteArray := prog_1_method_37_code
def yX11_openedBy : MethodName := ⟨RX11, "openedBy", "(II)I"⟩
abbrev cX11_closedBy : ByteArray := prog_1_method_38_code
def yX11_closedBy : MethodName := ⟨RX11, "closedBy", "(II)I"⟩
abbrev cX11_depth : ByteArray := prog_1_method_39_code
def yX11_depth : MethodName := ⟨RX11, "depth", "(I)I"⟩
abbrev cX11_blockRule : ByteArray := prog_1_method_40_code
def yX11_blockRule : MethodName := ⟨RX11, "blockRule", "(II)I"⟩
abbrev cX11_blockOpening : ByteArray := prog_1_method_41_code
def yX11_blockOpening : MethodName := ⟨RX11, "blockOpening", "(II)I"⟩
abbrev cX11_contentColumn : ByteArray := prog_1_method_42_code
def yX11_contentColumn : MethodName := ⟨RX11, "contentColumn", "(II)I"⟩
abbrev cX11_strays : ByteArray := prog_1_method_43_code
def yX11_strays : MethodName := ⟨RX11, "strays", "()I"⟩
abbrev cX11_lost : ByteArray := prog_1_method_44_code
def yX11_lost : MethodName := ⟨RX11, "lost", "()I"⟩
abbrev cX11_vocabulary : ByteArray := prog_1_method_45_code
def yX11_vocabulary : MethodName := ⟨RX11, "vocabulary", "()I"⟩
abbrev cX11_commonestCount : ByteArray := prog_1_method_46_code
def yX11_commonestCount : MethodName := ⟨RX11, "commonestCount", "()I"⟩
abbrev cX11_commonestByte : ByteArray := prog_1_method_47_code
def yX11_commonestByte : MethodName := ⟨RX11, "commonestByte", "(I)I"⟩
abbrev cX11_undo : ByteArray := prog_1_method_48_code
def yX11_undo : MethodName := ⟨RX11, "undo", "()I"⟩
abbrev cX11_keep : ByteArray := prog_1_method_49_code
def yX11_keep : MethodName := ⟨RX11, "keep", "(I)I"⟩
abbrev cX11_back : ByteArray := prog_1_method_50_code
def yX11_back : MethodName := ⟨RX11, "back", "(I)I"⟩
abbrev cX11_draw : ByteArray := prog_1_method_51_code
def yX11_draw : MethodName := ⟨RX11, "draw", "(II)I"⟩
abbrev cX11_digest : ByteArray := prog_1_method_52_code
def yX11_digest : MethodName := ⟨RX11, "digest", "()J"⟩
abbrev cX11_within : ByteArray := prog_1_method_53_code
def yX11_within : MethodName := ⟨RX11, "within", "(III)Z"⟩
abbrev cX11_isWordByte : ByteArray := prog_1_method_54_code
def yX11_isWordByte : MethodName := ⟨RX11, "isWordByte", "(I)Z"⟩
abbrev cX11_canBeginComment : ByteArray := prog_1_method_55_code
def yX11_canBeginComment : MethodName := ⟨RX11, "canBeginComment", "(I)Z"⟩
abbrev cX11_isRuleNumber : ByteArray := prog_1_method_56_code
def yX11_isRuleNumber : MethodName := ⟨RX11, "isRuleNumber", "(I)Z"⟩
abbrev cX11_imageAt : ByteArray := prog_1_method_57_code
def yX11_imageAt : MethodName := ⟨RX11, "imageAt", "(I)LAutoIndenter$State;"⟩
abbrev cX11_columnFrom : ByteArray := prog_1_method_58_code
def yX11_columnFrom : MethodName := ⟨RX11, "columnFrom", "(IIII)I"⟩
abbrev cX11_mix : ByteArray := prog_1_method_59_code
def yX11_mix : MethodName := ⟨RX11, "mix", "(JI)J"⟩
abbrev cX11_beginChange : ByteArray := prog_1_method_60_code
def yX11_beginChange : MethodName := ⟨RX11, "beginChange", "()V"⟩
abbrev cX11_study : ByteArray := prog_1_method_61_code
def yX11_study : MethodName := ⟨RX11, "study", "()V"⟩
abbrev cX11_refusalOfOneText : ByteArray := prog_1_method_62_code
def yX11_refusalOfOneText : MethodName := ⟨RX11, "refusalOfOneText", "(III)I"⟩
abbrev cX11_makeRule : ByteArray := prog_1_method_63_code
def yX11_makeRule : MethodName := ⟨RX11, "makeRule", "(IIII)I"⟩
abbrev cX11_indentAnew : ByteArray := prog_1_method_64_code
def yX11_indentAnew : MethodName := ⟨RX11, "indentAnew", "(ILAutoIndenter$Row;II)Z"⟩
abbrev cX11_linesChangedWith : ByteArray := prog_1_method_65_code
def yX11_linesChangedWith : MethodName := ⟨RX11, "linesChangedWith", "(II)I"⟩
abbrev cX11_findBestSetting : ByteArray := prog_1_method_66_code
def yX11_findBestSetting : MethodName := ⟨RX11, "findBestSetting", "()I"⟩
abbrev cX11_findToken : ByteArray := prog_1_method_67_code
def yX11_findToken : MethodName := ⟨RX11, "findToken", "(II)I"⟩
abbrev cX11_findBlock : ByteArray := prog_1_method_68_code
def yX11_findBlock : MethodName := ⟨RX11, "findBlock", "(II)I"⟩
abbrev cX11_placeOf : ByteArray := prog_1_method_69_code
def yX11_placeOf : MethodName := ⟨RX11, "placeOf", "(I)I"⟩
abbrev cX11_mixLine : ByteArray := prog_1_method_70_code
def yX11_mixLine : MethodName := ⟨RX11, "mixLine", "(JI)J"⟩
abbrev cX11_drawLine : ByteArray := prog_1_method_71_code
def yX11_drawLine : MethodName := ⟨RX11, "drawLine", "(I)I"⟩
abbrev cX11_nextSeed : ByteArray := prog_1_method_72_code
def yX11_nextSeed : MethodName := ⟨RX11, "nextSeed", "(I)I"⟩
abbrev cX11_drawnNumber : ByteArray := prog_1_method_73_code
def yX11_drawnNumber : MethodName := ⟨RX11, "drawnNumber", "(I)I"⟩
abbrev cX11_pieceText : ByteArray := prog_1_method_74_code
def yX11_pieceText : MethodName := ⟨RX11, "pieceText", "(I)Ljava/lang/String;"⟩
def RX12 : String := "AutoIndenterModel"
def TX12 : u_T := fun k => match k with
  | 0 => ("AutoIndenterModel", "page", "[I", true)
  | 1 => ("AutoIndenterModel", "remembered", "I", false)
  | 2 => ("AutoIndenterModel", "isKept", "[Z", true)
  | 3 => ("AutoIndenterModel", "text", "[I", true)
  | 4 => ("AutoIndenterModel", "typed", "I", false)
  | 5 => ("AutoIndenterModel", "tokenLine", "[I", true)
  | 6 => ("AutoIndenterModel", "tokenSpot", "[I", true)
  | 7 => ("AutoIndenterModel", "tokenLong", "[I", true)
  | 8 => ("AutoIndenterModel", "tokenSort", "[I", true)
  | 9 => ("AutoIndenterModel", "opens", "[I", true)
  | 10 => ("AutoIndenterModel", "closes", "[I", true)
  | 11 => ("AutoIndenterModel", "closer", "[I", true)
  | 12 => ("AutoIndenterModel", "many", "I", false)
  | 13 => ("AutoIndenterModel", "firstOf", "[I", true)
  | 14 => ("AutoIndenterModel", "isHeld", "[Z", true)
  | 15 => ("AutoIndenterModel", "depths", "[I", true)
  | 16 => ("AutoIndenterModel", "stacks", "[I", true)
  | 17 => ("AutoIndenterModel", "stack", "[I", true)
  | 18 => ("AutoIndenterModel", "stacked", "I", false)
  | 19 => ("AutoIndenterModel", "stray", "I", false)
  | 20 => ("AutoIndenterModel", "gone", "I", false)
  | 21 => ("AutoIndenterModel", "row", "[I", true)
  | 22 => ("AutoIndenterModel", "useStep", "I", false)
  | 23 => ("AutoIndenterModel", "useBase", "I", false)
  | 24 => ("AutoIndenterModel", "column", "I", false)
  | 25 => ("AutoIndenterModel", "why", "I", false)
  | 26 => ("AutoIndenterModel", "by", "I", false)
  | 27 => ("AutoIndenterModel", "weight", "I", false)
  | 28 => ("AutoIndenterModel", "lineFrom", "I", false)
  | 29 => ("AutoIndenterModel", "lineTo", "I", false)
  | 30 => ("AutoIndenterModel", "textFrom", "[I", true)
  | 31 => ("AutoIndenterModel", "textTo", "[I", true)
  | 32 => ("AutoIndenterModel", "spot", "I", false)
  | 33 => ("AutoIndenterModel", "fewest", "I", false)
  | 34 => ("AutoIndenterModel", "fewestStep", "I", false)
  | 35 => ("AutoIndenterModel", "fewestBase", "I", false)
  | 36 => ("AutoIndenterModel", "often", "I", false)
  | 37 => ("AutoIndenterModel", "drawn", "I", false)
  | 38 => ("AutoIndenterModel", "pieceEnds", "[I", true)
  | 39 => ("AutoIndenterModel", "pieces", "[I", true)
  | _ => ("AutoIndenterModel", "hash", "J", false)
def tyX12 : Nat → FieldType := fun k => match k with
  | 0 => .array .int
  | 1 => .int
  | 2 => .array .boolean
  | 3 => .array .int
  | 4 => .int
  | 5 => .array .int
  | 6 => .array .int
  | 7 => .array .int
  | 8 => .array .int
  | 9 => .array .int
  | 10 => .array .int
  | 11 => .array .int
  | 12 => .int
  | 13 => .array .int
  | 14 => .array .boolean
  | 15 => .array .int
  | 16 => .array .int
  | 17 => .array .int
  | 18 => .int
  | 19 => .int
  | 20 => .int
  | 21 => .array .int
  | 22 => .int
  | 23 => .int
  | 24 => .int
  | 25 => .int
  | 26 => .int
  | 27 => .int
  | 28 => .int
  | 29 => .int
  | 30 => .array .int
  | 31 => .array .int
  | 32 => .int
  | 33 => .int
  | 34 => .int
  | 35 => .int
  | 36 => .int
  | 37 => .int
  | 38 => .array .int
  | 39 => .array .int
  | _ => .long
abbrev wsX120 : List Cond := u_ws RX12 TX12 41
theorem nmX12 : ∀ a, a < 41 → ∀ b, b < 41 → a ≠ b → (TX12 a).2.1 ≠ (TX12 b).2.1 := by decide +kernel
theorem tyX12_ok : ∀ k, k < 41 → parseFieldDescriptor (TX12 k).2.2.1 = some (tyX12 k) := by decide +kernel
abbrev cX12_init : ByteArray := prog_14_method_1_code
def yX12_init : MethodName := ⟨RX12, "<init>", "()V"⟩
abbrev cX12_in : ByteArray := prog_14_method_3_code
def yX12_in : MethodName := ⟨RX12, "in", "(III)Z"⟩
abbrev cX12_least : ByteArray := prog_14_method_4_code
def yX12_least : MethodName := ⟨RX12, "least", "(II)I"⟩
abbrev cX12_copies : ByteArray := prog_14_method_5_code
def yX12_copies : MethodName := ⟨RX12, "copies", "(II)V"⟩
abbrev cX12_begins : ByteArray := prog_14_method_6_code
def yX12_begins : MethodName := ⟨RX12, "begins", "()V"⟩
abbrev cX12_isLine : ByteArray := prog_14_method_7_code
def yX12_isLine : MethodName := ⟨RX12, "isLine", "(I)Z"⟩
abbrev cX12_isBlank : ByteArray := prog_14_method_8_code
def yX12_isBlank : MethodName := ⟨RX12, "isBlank", "(I)Z"⟩
abbrev cX12_contentAt : ByteArray := prog_14_method_9_code
def yX12_contentAt : MethodName := ⟨RX12, "contentAt", "(II)I"⟩
abbrev cX12_isWord : ByteArray := prog_14_method_10_code
def yX12_isWord : MethodName := ⟨RX12, "isWord", "(I)Z"⟩
abbrev cX12_isTriple : ByteArray := prog_14_method_11_code
def yX12_isTriple : MethodName := ⟨RX12, "isTriple", "(II)Z"⟩
abbrev cX12_endOfLiteral : ByteArray := prog_14_method_12_code
def yX12_endOfLiteral : MethodName := ⟨RX12, "endOfLiteral", "(II)I"⟩
abbrev cX12_endOfString : ByteArray := prog_14_method_13_code
def yX12_endOfString : MethodName := ⟨RX12, "endOfString", "(II)I"⟩
abbrev cX12_endOfWord : ByteArray := prog_14_method_14_code
def yX12_endOfWord : MethodName := ⟨RX12, "endOfWord", "(II)I"⟩
abbrev cX12_adds : ByteArray := prog_14_method_15_code
def yX12_adds : MethodName := ⟨RX12, "adds", "(IIII)V"⟩
abbrev cX12_divides : ByteArray := prog_14_method_16_code
def yX12_divides : MethodName := ⟨RX12, "divides", "(II)Z"⟩
abbrev cX12_tokenizes : ByteArray := prog_14_method_17_code
def yX12_tokenizes : MethodName := ⟨RX12, "tokenizes", "()V"⟩
abbrev cX12_hasText : ByteArray := prog_14_method_18_code
def yX12_hasText : MethodName := ⟨RX12, "hasText", "(III)Z"⟩
abbrev cX12_ruleAt : ByteArray := prog_14_method_19_code
def yX12_ruleAt : MethodName := ⟨RX12, "ruleAt", "(II)I"⟩
abbrev cX12_ruleFor : ByteArray := prog_14_method_20_code
def yX12_ruleFor : MethodName := ⟨RX12, "ruleFor", "(II)I"⟩
abbrev cX12_isClosingText : ByteArray := prog_14_method_21_code
def yX12_isClosingText : MethodName := ⟨RX12, "isClosingText", "(I)Z"⟩
abbrev cX12_shuts : ByteArray := prog_14_method_22_code
def yX12_shuts : MethodName := ⟨RX12, "shuts", "(I)V"⟩
abbrev cX12_notes : ByteArray := prog_14_method_23_code
def yX12_notes : MethodName := ⟨RX12, "notes", "(I)V"⟩
abbrev cX12_looks : ByteArray := prog_14_method_24_code
def yX12_looks : MethodName := ⟨RX12, "looks", "()V"⟩
abbrev cX12_uses : ByteArray := prog_14_method_25_code
def yX12_uses : MethodName := ⟨RX12, "uses", "(II)V"⟩
abbrev cX12_columnOf : ByteArray := prog_14_method_26_code
def yX12_columnOf : MethodName := ⟨RX12, "columnOf", "(I)I"⟩
abbrev cX12_isAligned : ByteArray := prog_14_method_27_code
def yX12_isAligned : MethodName := ⟨RX12, "isAligned", "(I)Z"⟩
abbrev cX12_columnIn : ByteArray := prog_14_method_28_code
def yX12_columnIn : MethodName := ⟨RX12, "columnIn", "(I)I"⟩
abbrev cX12_offers : ByteArray := prog_14_method_29_code
def yX12_offers : MethodName := ⟨RX12, "offers", "(IIII)V"⟩
abbrev cX12_decides : ByteArray := prog_14_method_30_code
def yX12_decides : MethodName := ⟨RX12, "decides", "(I)V"⟩
abbrev cX12_isFree : ByteArray := prog_14_method_31_code
def yX12_isFree : MethodName := ⟨RX12, "isFree", "(I)Z"⟩
abbrev cX12_settles : ByteArray := prog_14_method_32_code
def yX12_settles : MethodName := ⟨RX12, "settles", "(II)I"⟩
abbrev cX12_bits : ByteArray := prog_14_method_33_code
def yX12_bits : MethodName := ⟨RX12, "bits", "(I)I"⟩
abbrev cX12_type : ByteArray := prog_14_method_34_code
def yX12_type : MethodName := ⟨RX12, "type", "(I)I"⟩
abbrev cX12_clear : ByteArray := prog_14_method_35_code
def yX12_clear : MethodName := ⟨RX12, "clear", "()I"⟩
abbrev cX12_isLineText : ByteArray := prog_14_method_36_code
def yX12_isLineText : MethodName := ⟨RX12, "isLineText", "()Z"⟩
abbrev cX12_writes : ByteArray := prog_14_method_37_code
def yX12_writes : MethodName := ⟨RX12, "writes", "(I)V"⟩
abbrev cX12_copiesLine : ByteArray := prog_14_method_38_code
def yX12_copiesLine : MethodName := ⟨RX12, "copiesLine", "(II)V"⟩
abbrev cX12_parts : ByteArray := prog_14_method_39_code
def yX12_parts : MethodName := ⟨RX12, "parts", "(I)V"⟩
abbrev cX12_drops : ByteArray := prog_14_method_40_code
def yX12_drops : MethodName := ⟨RX12, "drops", "(I)V"⟩
abbrev cX12_insertLine : ByteArray := prog_14_method_41_code
def yX12_insertLine : MethodName := ⟨RX12, "insertLine", "(I)I"⟩
abbrev cX12_replaceLine : ByteArray := prog_14_method_42_code
def yX12_replaceLine : MethodName := ⟨RX12, "replaceLine", "(I)I"⟩
abbrev cX12_removeLine : ByteArray := prog_14_method_43_code
def yX12_removeLine : MethodName := ⟨RX12, "removeLine", "(I)I"⟩
abbrev cX12_splitLine : ByteArray := prog_14_method_44_code
def yX12_splitLine : MethodName := ⟨RX12, "splitLine", "(II)I"⟩
abbrev cX12_joinLines : ByteArray := prog_14_method_45_code
def yX12_joinLines : MethodName := ⟨RX12, "joinLines", "(I)I"⟩
abbrev cX12_isRange : ByteArray := prog_14_method_46_code
def yX12_isRange : MethodName := ⟨RX12, "isRange", "(II)Z"⟩
abbrev cX12_shift : ByteArray := prog_14_method_47_code
def yX12_shift : MethodName := ⟨RX12, "shift", "(III)I"⟩
abbrev cX12_pin : ByteArray := prog_14_method_48_code
def yX12_pin : MethodName := ⟨RX12, "pin", "(I)I"⟩
abbrev cX12_reindent : ByteArray := prog_14_method_49_code
def yX12_reindent : MethodName := ⟨RX12, "reindent", "(II)I"⟩
abbrev cX12_lines : ByteArray := prog_14_method_50_code
def yX12_lines : MethodName := ⟨RX12, "lines", "()I"⟩
abbrev cX12_indentation : ByteArray := prog_14_method_51_code
def yX12_indentation : MethodName := ⟨RX12, "indentation", "(I)I"⟩
abbrev cX12_length : ByteArray := prog_14_method_52_code
def yX12_length : MethodName := ⟨RX12, "length", "(I)I"⟩
abbrev cX12_byteAt : ByteArray := prog_14_method_53_code
def yX12_byteAt : MethodName := ⟨RX12, "byteAt", "(II)I"⟩
abbrev cX12_isProtected : ByteArray := prog_14_method_54_code
def yX12_isProtected : MethodName := ⟨RX12, "isProtected", "(I)I"⟩
abbrev cX12_isPinned : ByteArray := prog_14_method_55_code
def yX12_isPinned : MethodName := ⟨RX12, "isPinned", "(I)I"⟩
abbrev cX12_sets : ByteArray := prog_14_method_56_code
def yX12_sets : MethodName := ⟨RX12, "sets", "(II)I"⟩
abbrev cX12_setStep : ByteArray := prog_14_method_57_code
def yX12_setStep : MethodName := ⟨RX12, "setStep", "(I)I"⟩
abbrev cX12_setBase : ByteArray := prog_14_method_58_code
def yX12_setBase : MethodName := ⟨RX12, "setBase", "(I)I"⟩
abbrev cX12_setComment : ByteArray := prog_14_method_59_code
def yX12_setComment : MethodName := ⟨RX12, "setComment", "(I)I"⟩
abbrev cX12_skips : ByteArray := prog_14_method_60_code
def yX12_skips : MethodName := ⟨RX12, "skips", "()V"⟩
abbrev cX12_readsOne : ByteArray := prog_14_method_61_code
def yX12_readsOne : MethodName := ⟨RX12, "readsOne", "(I)I"⟩
abbrev cX12_readsTexts : ByteArray := prog_14_method_62_code
def yX12_readsTexts : MethodName := ⟨RX12, "readsTexts", "(I)I"⟩
abbrev cX12_writesText : ByteArray := prog_14_method_63_code
def yX12_writesText : MethodName := ⟨RX12, "writesText", "(II)V"⟩
abbrev cX12_makes : ByteArray := prog_14_method_64_code
def yX12_makes : MethodName := ⟨RX12, "makes", "(IIIIII)I"⟩
abbrev cX12_isRule : ByteArray := prog_14_method_65_code
def yX12_isRule : MethodName := ⟨RX12, "isRule", "(II)Z"⟩
abbrev cX12_pair : ByteArray := prog_14_method_66_code
def yX12_pair : MethodName := ⟨RX12, "pair", "(IIIII)I"⟩
abbrev cX12_starter : ByteArray := prog_14_method_67_code
def yX12_starter : MethodName := ⟨RX12, "starter", "(III)I"⟩
abbrev cX12_joiner : ByteArray := prog_14_method_68_code
def yX12_joiner : MethodName := ⟨RX12, "joiner", "(III)I"⟩
abbrev cX12_dropRule : ByteArray := prog_14_method_69_code
def yX12_dropRule : MethodName := ⟨RX12, "dropRule", "(I)I"⟩
abbrev cX12_isDecided : ByteArray := prog_14_method_70_code
def yX12_isDecided : MethodName := ⟨RX12, "isDecided", "(I)Z"⟩
abbrev cX12_wanted : ByteArray := prog_14_method_71_code
def yX12_wanted : MethodName := ⟨RX12, "wanted", "(I)I"⟩
abbrev cX12_reason : ByteArray := prog_14_method_72_code
def yX12_reason : MethodName := ⟨RX12, "reason", "(I)I"⟩
abbrev cX12_decidingRule : ByteArray := prog_14_method_73_code
def yX12_decidingRule : MethodName := ⟨RX12, "decidingRule", "(I)I"⟩
abbrev cX12_wouldChange : ByteArray := prog_14_method_74_code
def yX12_wouldChange : MethodName := ⟨RX12, "wouldChange", "()I"⟩
abbrev cX12_changesBy : ByteArray := prog_14_method_75_code
def yX12_changesBy : MethodName := ⟨RX12, "changesBy", "(II)I"⟩
abbrev cX12_changesWith : ByteArray := prog_14_method_76_code
def yX12_changesWith : MethodName := ⟨RX12, "changesWith", "(II)I"⟩
abbrev cX12_searches : ByteArray := prog_14_method_77_code
def yX12_searches : MethodName := ⟨RX12, "searches", "()V"⟩
abbrev cX12_fewestChanges : ByteArray := prog_14_method_78_code
def yX12_fewestChanges : MethodName := ⟨RX12, "fewestChanges", "()I"⟩
abbrev cX12_bestStep : ByteArray := prog_14_method_79_code
def yX12_bestStep : MethodName := ⟨RX12, "bestStep", "()I"⟩
abbrev cX12_bestBase : ByteArray := prog_14_method_80_code
def yX12_bestBase : MethodName := ⟨RX12, "bestBase", "()I"⟩
abbrev cX12_tokenOf : ByteArray := prog_14_method_81_code
def yX12_tokenOf : MethodName := ⟨RX12, "tokenOf", "(II)I"⟩
abbrev cX12_tokens : ByteArray := prog_14_method_82_code
def yX12_tokens : MethodName := ⟨RX12, "tokens", "(I)I"⟩
abbrev cX12_tokenAt : ByteArray := prog_14_method_83_code
def yX12_tokenAt : MethodName := ⟨RX12, "tokenAt", "(II)I"⟩
abbrev cX12_tokenLength : ByteArray := prog_14_method_84_code
def yX12_tokenLength : MethodName := ⟨RX12, "tokenLength", "(II)I"⟩
abbrev cX12_tokenKind : ByteArray := prog_14_method_85_code
def yX12_tokenKind : MethodName := ⟨RX12, "tokenKind", "(II)I"⟩
abbrev cX12_placeOf : ByteArray := prog_14_method_86_code
def yX12_placeOf : MethodName := ⟨RX12, "placeOf", "(I)I"⟩
abbrev cX12_openedBy : ByteArray := prog_14_method_87_code
def yX12_openedBy : MethodName := ⟨RX12, "openedBy", "(II)I"⟩
abbrev cX12_closedBy : ByteArray := prog_14_method_88_code
def yX12_closedBy : MethodName := ⟨RX12, "closedBy", "(II)I"⟩
abbrev cX12_depth : ByteArray := prog_14_method_89_code
def yX12_depth : MethodName := ⟨RX12, "depth", "(I)I"⟩
abbrev cX12_blockOf : ByteArray := prog_14_method_90_code
def yX12_blockOf : MethodName := ⟨RX12, "blockOf", "(II)I"⟩
abbrev cX12_blockRule : ByteArray := prog_14_method_91_code
def yX12_blockRule : MethodName := ⟨RX12, "blockRule", "(II)I"⟩
abbrev cX12_blockOpening : ByteArray := prog_14_method_92_code
def yX12_blockOpening : MethodName := ⟨RX12, "blockOpening", "(II)I"⟩
abbrev cX12_contentColumn : ByteArray := prog_14_method_93_code
def yX12_contentColumn : MethodName := ⟨RX12, "contentColumn", "(II)I"⟩
abbrev cX12_strays : ByteArray := prog_14_method_94_code
def yX12_strays : MethodName := ⟨RX12, "strays", "()I"⟩
abbrev cX12_lost : ByteArray := prog_14_method_95_code
def yX12_lost : MethodName := ⟨RX12, "lost", "()I"⟩
abbrev cX12_isSame : ByteArray := prog_14_method_96_code
def yX12_isSame : MethodName := ⟨RX12, "isSame", "(II)Z"⟩
abbrev cX12_isFirst : ByteArray := prog_14_method_97_code
def yX12_isFirst : MethodName := ⟨RX12, "isFirst", "(I)Z"⟩
abbrev cX12_vocabulary : ByteArray := prog_14_method_98_code
def yX12_vocabulary : MethodName := ⟨RX12, "vocabulary", "()I"⟩
abbrev cX12_commonest : ByteArray := prog_14_method_99_code
def yX12_commonest : MethodName := ⟨RX12, "commonest", "()I"⟩
abbrev cX12_commonestCount : ByteArray := prog_14_method_100_code
def yX12_commonestCount : MethodName := ⟨RX12, "commonestCount", "()I"⟩
abbrev cX12_commonestByte : ByteArray := prog_14_method_101_code
def yX12_commonestByte : MethodName := ⟨RX12, "commonestByte", "(I)I"⟩
abbrev cX12_undo : ByteArray := prog_14_method_102_code
def yX12_undo : MethodName := ⟨RX12, "undo", "()I"⟩
abbrev cX12_keep : ByteArray := prog_14_method_103_code
def yX12_keep : MethodName := ⟨RX12, "keep", "(I)I"⟩
abbrev cX12_back : ByteArray := prog_14_method_104_code
def yX12_back : MethodName := ⟨RX12, "back", "(I)I"⟩
abbrev cX12_draws : ByteArray := prog_14_method_105_code
def yX12_draws : MethodName := ⟨RX12, "draws", "()I"⟩
abbrev cX12_drawsLine : ByteArray := prog_14_method_106_code
def yX12_drawsLine : MethodName := ⟨RX12, "drawsLine", "()V"⟩
abbrev cX12_draw : ByteArray := prog_14_method_107_code
def yX12_draw : MethodName := ⟨RX12, "draw", "(II)I"⟩
abbrev cX12_mixes : ByteArray := prog_14_method_108_code
def yX12_mixes : MethodName := ⟨RX12, "mixes", "(I)V"⟩
abbrev cX12_mixesText : ByteArray := prog_14_method_109_code
def yX12_mixesText : MethodName := ⟨RX12, "mixesText", "(I)V"⟩
abbrev cX12_mixesRule : ByteArray := prog_14_method_110_code
def yX12_mixesRule : MethodName := ⟨RX12, "mixesRule", "(I)V"⟩
abbrev cX12_digest : ByteArray := prog_14_method_111_code
def yX12_digest : MethodName := ⟨RX12, "digest", "()J"⟩
def RJ6 : String := "java/lang/Integer"
def TJ6 : u_T := fun k => match k with
  | _ => ("", "", "", false)
def tyJ6 : Nat → FieldType := fun k => match k with
  | _ => .int
abbrev wsJ60 : List Cond := u_ws RJ6 TJ6 0
theorem nmJ6 : ∀ a, a < 0 → ∀ b, b < 0 → a ≠ b → (TJ6 a).2.1 ≠ (TJ6 b).2.1 := by decide +kernel
theorem tyJ6_ok : ∀ k, k < 0 → parseFieldDescriptor (TJ6 k).2.2.1 = some (tyJ6 k) := by decide +kernel
abbrev cJ6_bitCount_0f7a4 : ByteArray := prog_15_method_49_code
def yJ6_bitCount_0f7a4 : MethodName := ⟨RJ6, "bitCount", "(I)I"⟩
def RJ9 : String := "java/lang/Math"
def TJ9 : u_T := fun k => match k with
  | _ => ("", "", "", false)
def tyJ9 : Nat → FieldType := fun k => match k with
  | _ => .int
abbrev wsJ90 : List Cond := u_ws RJ9 TJ9 0
theorem nmJ9 : ∀ a, a < 0 → ∀ b, b < 0 → a ≠ b → (TJ9 a).2.1 ≠ (TJ9 b).2.1 := by decide +kernel
theorem tyJ9_ok : ∀ k, k < 0 → parseFieldDescriptor (TJ9 k).2.2.1 = some (tyJ9 k) := by decide +kernel
abbrev cJ9_max_7cf53 : ByteArray := prog_16_method_65_code
def yJ9_max_7cf53 : MethodName := ⟨RJ9, "max", "(II)I"⟩
abbrev cJ9_min_7cf53 : ByteArray := prog_16_method_69_code
def yJ9_min_7cf53 : MethodName := ⟨RJ9, "min", "(II)I"⟩
def RJ0 : String := "java/lang/String"
def TJ0 : u_T := fun k => match k with
  | _ => ("", "", "", false)
def tyJ0 : Nat → FieldType := fun k => match k with
  | _ => .int
abbrev wsJ00 : List Cond := u_ws RJ0 TJ0 0
theorem nmJ0 : ∀ a, a < 0 → ∀ b, b < 0 → a ≠ b → (TJ0 a).2.1 ≠ (TJ0 b).2.1 := by decide +kernel
theorem tyJ0_ok : ∀ k, k < 0 → parseFieldDescriptor (TJ0 k).2.2.1 = some (tyJ0 k) := by decide +kernel
abbrev cJ0_length_8abf5 : ByteArray := prog_17_method_54_code
def yJ0_length_8abf5 : MethodName := ⟨RJ0, "length", "()I"⟩
abbrev cJ0_charAt_5068e : ByteArray := prog_17_method_56_code
def yJ0_charAt_5068e : MethodName := ⟨RJ0, "charAt", "(I)C"⟩
abbrev cJ0_coder_7d493 : ByteArray := prog_17_method_152_code
def yJ0_coder_7d493 : MethodName := ⟨RJ0, "coder", "()B"⟩
abbrev cJ0_isLatin1_aae02 : ByteArray := prog_17_method_154_code
def yJ0_isLatin1_aae02 : MethodName := ⟨RJ0, "isLatin1", "()Z"⟩
abbrev cJ0_checkIndex_df160 : ByteArray := prog_17_method_155_code
def yJ0_checkIndex_df160 : MethodName := ⟨RJ0, "checkIndex", "(II)V"⟩
def RJ1 : String := "java/lang/StringLatin1"
def TJ1 : u_T := fun k => match k with
  | _ => ("", "", "", false)
def tyJ1 : Nat → FieldType := fun k => match k with
  | _ => .int
abbrev wsJ10 : List Cond := u_ws RJ1 TJ1 0
theorem nmJ1 : ∀ a, a < 0 → ∀ b, b < 0 → a ≠ b → (TJ1 a).2.1 ≠ (TJ1 b).2.1 := by decide +kernel
theorem tyJ1_ok : ∀ k, k < 0 → parseFieldDescriptor (TJ1 k).2.2.1 = some (tyJ1 k) := by decide +kernel
abbrev cJ1_charAt_3b067 : ByteArray := prog_18_method_2_code
def yJ1_charAt_3b067 : MethodName := ⟨RJ1, "charAt", "([BI)C"⟩
def RJ2 : String := "java/lang/StringUTF16"
def TJ2 : u_T := fun k => match k with
  | _ => ("", "", "", false)
def tyJ2 : Nat → FieldType := fun k => match k with
  | _ => .int
abbrev wsJ20 : List Cond := u_ws RJ2 TJ2 0
theorem nmJ2 : ∀ a, a < 0 → ∀ b, b < 0 → a ≠ b → (TJ2 a).2.1 ≠ (TJ2 b).2.1 := by decide +kernel
theorem tyJ2_ok : ∀ k, k < 0 → parseFieldDescriptor (TJ2 k).2.2.1 = some (tyJ2 k) := by decide +kernel
abbrev cJ2_getChar_3b067 : ByteArray := prog_19_method_5_code
def yJ2_getChar_3b067 : MethodName := ⟨RJ2, "getChar", "([BI)C"⟩
abbrev cJ2_length_9d52b : ByteArray := prog_19_method_6_code
def yJ2_length_9d52b : MethodName := ⟨RJ2, "length", "([B)I"⟩
abbrev cJ2_charAt_3b067 : ByteArray := prog_19_method_83_code
def yJ2_charAt_3b067 : MethodName := ⟨RJ2, "charAt", "([BI)C"⟩
abbrev cJ2_checkIndex_2214a : ByteArray := prog_19_method_91_code
def yJ2_checkIndex_2214a : MethodName := ⟨RJ2, "checkIndex", "(I[B)V"⟩
def RJ10 : String := "java/lang/System"
def TJ10 : u_T := fun k => match k with
  | _ => ("", "", "", false)
def tyJ10 : Nat → FieldType := fun k => match k with
  | _ => .int
abbrev wsJ100 : List Cond := u_ws RJ10 TJ10 0
theorem nmJ10 : ∀ a, a < 0 → ∀ b, b < 0 → a ≠ b → (TJ10 a).2.1 ≠ (TJ10 b).2.1 := by decide +kernel
theorem tyJ10_ok : ∀ k, k < 0 → parseFieldDescriptor (TJ10 k).2.2.1 = some (tyJ10 k) := by decide +kernel
def RJ3 : String := "jdk/internal/util/Preconditions"
def TJ3 : u_T := fun k => match k with
  | _ => ("", "", "", false)
def tyJ3 : Nat → FieldType := fun k => match k with
  | _ => .int
abbrev wsJ30 : List Cond := u_ws RJ3 TJ3 0
theorem nmJ3 : ∀ a, a < 0 → ∀ b, b < 0 → a ≠ b → (TJ3 a).2.1 ≠ (TJ3 b).2.1 := by decide +kernel
theorem tyJ3_ok : ∀ k, k < 0 → parseFieldDescriptor (TJ3 k).2.2.1 = some (tyJ3 k) := by decide +kernel
abbrev cJ3_checkIndex_8e157 : ByteArray := prog_21_method_11_code
def yJ3_checkIndex_8e157 : MethodName := ⟨RJ3, "checkIndex", "(IILjava/util/function/BiFunction;)I"⟩
def RL : String := "AutoIndenterLaw"
abbrev cL_law : ByteArray := code
def yL_law : MethodName := ⟨RL, "law", "([I)Z"⟩
abbrev vwCl : List vw_C := [(RX0, TX0, 14), (RX1, TX1, 2), (RX2, TX2, 3), (RX3, TX3, 5), (RX4, TX4, 6), (RX5, TX5, 1), (RX6, TX6, 3), (RX7, TX7, 7), (RX8, TX8, 5), (RX9, TX9, 10), (RX10, TX10, 3), (RX11, TX11, 12), (RX12, TX12, 41)]
def WL : List Cond := lw_tbl.filter goodWord
theorem WL_in {w : Cond} (h : w ∈ lw_tbl) (g : goodWord w = true) : w ∈ WL := List.mem_filter.mpr ⟨h, g⟩
theorem WL_good : GoodIn WL WL := fun _ h => ⟨h, good_of_word (List.mem_filter.mp h).2⟩
theorem WL_tbl {w : Cond} (h : w ∈ WL) : w ∈ lw_tbl := (List.mem_filter.mp h).1
theorem tbS {w : Cond} (h : w ∈ k2_sels lw_privs) : w ∈ lw_tbl := List.mem_append_left _ h
theorem tb1 {w : Cond} (h : w ∈ tables_1_1) : w ∈ lw_tbl := List.mem_append_right _ (List.mem_append_left _ h)
theorem tb2 {w : Cond} (h : w ∈ tables_1_2) : w ∈ lw_tbl := List.mem_append_right _ (List.mem_append_right _ (List.mem_append_left _ h))
theorem tb3 {w : Cond} (h : w ∈ tables_1_3) : w ∈ lw_tbl := List.mem_append_right _ (List.mem_append_right _ (List.mem_append_right _ (List.mem_append_left _ h)))
theorem tb4 {w : Cond} (h : w ∈ tables_1_4) : w ∈ lw_tbl := List.mem_append_right _ (List.mem_append_right _ (List.mem_append_right _ (List.mem_append_right _ (List.mem_append_left _ h))))
theorem tb5 {w : Cond} (h : w ∈ tables_1_5) : w ∈ lw_tbl := List.mem_append_right _ (List.mem_append_right _ (List.mem_append_right _ (List.mem_append_right _ (List.mem_append_right _ (List.mem_append_left _ h)))))
theorem tb6 {w : Cond} (h : w ∈ tables_1_6) : w ∈ lw_tbl := List.mem_append_right _ (List.mem_append_right _ (List.mem_append_right _ (List.mem_append_right _ (List.mem_append_right _ (List.mem_append_right _ (List.mem_append_left _ h))))))
theorem tb7 {w : Cond} (h : w ∈ tables_1_7) : w ∈ lw_tbl := List.mem_append_right _ (List.mem_append_right _ (List.mem_append_right _ (List.mem_append_right _ (List.mem_append_right _ (List.mem_append_right _ (List.mem_append_right _ (h)))))))
theorem inlX0 : ∀ w ∈ u_ws RX0 TX0 14, w ∈ WL := by
  intro w hw
  obtain ⟨k, hk, rfl⟩ := List.mem_map.mp hw
  have hk := List.mem_range.mp hk
  match k, hk with
  | 0, _ => exact WL_in (tb2 (List.mem_of_getElem? (i := 58) rfl)) rfl
  | 1, _ => exact WL_in (tb2 (List.mem_of_getElem? (i := 60) rfl)) rfl
  | 2, _ => exact WL_in (tb2 (List.mem_of_getElem? (i := 62) rfl)) rfl
  | 3, _ => exact WL_in (tb2 (List.mem_of_getElem? (i := 64) rfl)) rfl
  | 4, _ => exact WL_in (tb2 (List.mem_of_getElem? (i := 66) rfl)) rfl
  | 5, _ => exact WL_in (tb2 (List.mem_of_getElem? (i := 68) rfl)) rfl
  | 6, _ => exact WL_in (tb2 (List.mem_of_getElem? (i := 70) rfl)) rfl
  | 7, _ => exact WL_in (tb2 (List.mem_of_getElem? (i := 72) rfl)) rfl
  | 8, _ => exact WL_in (tb2 (List.mem_of_getElem? (i := 74) rfl)) rfl
  | 9, _ => exact WL_in (tb2 (List.mem_of_getElem? (i := 76) rfl)) rfl
  | 10, _ => exact WL_in (tb2 (List.mem_of_getElem? (i := 78) rfl)) rfl
  | 11, _ => exact WL_in (tb2 (List.mem_of_getElem? (i := 80) rfl)) rfl
  | 12, _ => exact WL_in (tb2 (List.mem_of_getElem? (i := 82) rfl)) rfl
  | 13, _ => exact WL_in (tb2 (List.mem_of_getElem? (i := 84) rfl)) rfl
  | k + 14, h => omega
theorem inlX1 : ∀ w ∈ u_ws RX1 TX1 2, w ∈ WL := by
  intro w hw
  obtain ⟨k, hk, rfl⟩ := List.mem_map.mp hw
  have hk := List.mem_range.mp hk
  match k, hk with
  | 0, _ => exact WL_in (tb1 (List.mem_of_getElem? (i := 157) rfl)) rfl
  | 1, _ => exact WL_in (tb1 (List.mem_of_getElem? (i := 159) rfl)) rfl
  | k + 2, h => omega
theorem inlX2 : ∀ w ∈ u_ws RX2 TX2 3, w ∈ WL := by
  intro w hw
  obtain ⟨k, hk, rfl⟩ := List.mem_map.mp hw
  have hk := List.mem_range.mp hk
  match k, hk with
  | 0, _ => exact WL_in (tb1 (List.mem_of_getElem? (i := 193) rfl)) rfl
  | 1, _ => exact WL_in (tb1 (List.mem_of_getElem? (i := 195) rfl)) rfl
  | 2, _ => exact WL_in (tb1 (List.mem_of_getElem? (i := 197) rfl)) rfl
  | k + 3, h => omega
theorem inlX3 : ∀ w ∈ u_ws RX3 TX3 5, w ∈ WL := by
  intro w hw
  obtain ⟨k, hk, rfl⟩ := List.mem_map.mp hw
  have hk := List.mem_range.mp hk
  match k, hk with
  | 0, _ => exact WL_in (tb1 (List.mem_of_getElem? (i := 71) rfl)) rfl
  | 1, _ => exact WL_in (tb1 (List.mem_of_getElem? (i := 73) rfl)) rfl
  | 2, _ => exact WL_in (tb1 (List.mem_of_getElem? (i := 75) rfl)) rfl
  | 3, _ => exact WL_in (tb1 (List.mem_of_getElem? (i := 77) rfl)) rfl
  | 4, _ => exact WL_in (tb1 (List.mem_of_getElem? (i := 79) rfl)) rfl
  | k + 5, h => omega
theorem inlX4 : ∀ w ∈ u_ws RX4 TX4 6, w ∈ WL := by
  intro w hw
  obtain ⟨k, hk, rfl⟩ := List.mem_map.mp hw
  have hk := List.mem_range.mp hk
  match k, hk with
  | 0, _ => exact WL_in (tb2 (List.mem_of_getElem? (i := 103) rfl)) rfl
  | 1, _ => exact WL_in (tb2 (List.mem_of_getElem? (i := 105) rfl)) rfl
  | 2, _ => exact WL_in (tb2 (List.mem_of_getElem? (i := 107) rfl)) rfl
  | 3, _ => exact WL_in (tb2 (List.mem_of_getElem? (i := 109) rfl)) rfl
  | 4, _ => exact WL_in (tb2 (List.mem_of_getElem? (i := 111) rfl)) rfl
  | 5, _ => exact WL_in (tb2 (List.mem_of_getElem? (i := 113) rfl)) rfl
  | k + 6, h => omega
theorem inlX5 : ∀ w ∈ u_ws RX5 TX5 1, w ∈ WL := by
  intro w hw
  obtain ⟨k, hk, rfl⟩ := List.mem_map.mp hw
  have hk := List.mem_range.mp hk
  match k, hk with
  | 0, _ => exact WL_in (tb1 (List.mem_of_getElem? (i := 51) rfl)) rfl
  | k + 1, h => omega
theorem inlX6 : ∀ w ∈ u_ws RX6 TX6 3, w ∈ WL := by
  intro w hw
  obtain ⟨k, hk, rfl⟩ := List.mem_map.mp hw
  have hk := List.mem_range.mp hk
  match k, hk with
  | 0, _ => exact WL_in (tb1 (List.mem_of_getElem? (i := 173) rfl)) rfl
  | 1, _ => exact WL_in (tb1 (List.mem_of_getElem? (i := 175) rfl)) rfl
  | 2, _ => exact WL_in (tb1 (List.mem_of_getElem? (i := 177) rfl)) rfl
  | k + 3, h => omega
theorem inlX7 : ∀ w ∈ u_ws RX7 TX7 7, w ∈ WL := by
  intro w hw
  obtain ⟨k, hk, rfl⟩ := List.mem_map.mp hw
  have hk := List.mem_range.mp hk
  match k, hk with
  | 0, _ => exact WL_in (tb1 (List.mem_of_getElem? (i := 105) rfl)) rfl
  | 1, _ => exact WL_in (tb1 (List.mem_of_getElem? (i := 107) rfl)) rfl
  | 2, _ => exact WL_in (tb1 (List.mem_of_getElem? (i := 109) rfl)) rfl
  | 3, _ => exact WL_in (tb1 (List.mem_of_getElem? (i := 111) rfl)) rfl
  | 4, _ => exact WL_in (tb1 (List.mem_of_getElem? (i := 113) rfl)) rfl
  | 5, _ => exact WL_in (tb1 (List.mem_of_getElem? (i := 115) rfl)) rfl
  | 6, _ => exact WL_in (tb1 (List.mem_of_getElem? (i := 117) rfl)) rfl
  | k + 7, h => omega
theorem inlX8 : ∀ w ∈ u_ws RX8 TX8 5, w ∈ WL := by
  intro w hw
  obtain ⟨k, hk, rfl⟩ := List.mem_map.mp hw
  have hk := List.mem_range.mp hk
  match k, hk with
  | 0, _ => exact WL_in (tb1 (List.mem_of_getElem? (i := 134) rfl)) rfl
  | 1, _ => exact WL_in (tb1 (List.mem_of_getElem? (i := 136) rfl)) rfl
  | 2, _ => exact WL_in (tb1 (List.mem_of_getElem? (i := 138) rfl)) rfl
  | 3, _ => exact WL_in (tb1 (List.mem_of_getElem? (i := 140) rfl)) rfl
  | 4, _ => exact WL_in (tb1 (List.mem_of_getElem? (i := 142) rfl)) rfl
  | k + 5, h => omega
theorem inlX9 : ∀ w ∈ u_ws RX9 TX9 10, w ∈ WL := by
  intro w hw
  obtain ⟨k, hk, rfl⟩ := List.mem_map.mp hw
  have hk := List.mem_range.mp hk
  match k, hk with
  | 0, _ => exact WL_in (tb2 (List.mem_of_getElem? (i := 0) rfl)) rfl
  | 1, _ => exact WL_in (tb2 (List.mem_of_getElem? (i := 2) rfl)) rfl
  | 2, _ => exact WL_in (tb2 (List.mem_of_getElem? (i := 4) rfl)) rfl
  | 3, _ => exact WL_in (tb2 (List.mem_of_getElem? (i := 6) rfl)) rfl
  | 4, _ => exact WL_in (tb2 (List.mem_of_getElem? (i := 8) rfl)) rfl
  | 5, _ => exact WL_in (tb2 (List.mem_of_getElem? (i := 10) rfl)) rfl
  | 6, _ => exact WL_in (tb2 (List.mem_of_getElem? (i := 12) rfl)) rfl
  | 7, _ => exact WL_in (tb2 (List.mem_of_getElem? (i := 14) rfl)) rfl
  | 8, _ => exact WL_in (tb2 (List.mem_of_getElem? (i := 16) rfl)) rfl
  | 9, _ => exact WL_in (tb2 (List.mem_of_getElem? (i := 18) rfl)) rfl
  | k + 10, h => omega
theorem inlX10 : ∀ w ∈ u_ws RX10 TX10 3, w ∈ WL := by
  intro w hw
  obtain ⟨k, hk, rfl⟩ := List.mem_map.mp hw
  have hk := List.mem_range.mp hk
  match k, hk with
  | 0, _ => exact WL_in (tb2 (List.mem_of_getElem? (i := 130) rfl)) rfl
  | 1, _ => exact WL_in (tb2 (List.mem_of_getElem? (i := 132) rfl)) rfl
  | 2, _ => exact WL_in (tb2 (List.mem_of_getElem? (i := 134) rfl)) rfl
  | k + 3, h => omega
theorem inlX11 : ∀ w ∈ u_ws RX11 TX11 12, w ∈ WL := by
  intro w hw
  obtain ⟨k, hk, rfl⟩ := List.mem_map.mp hw
  have hk := List.mem_range.mp hk
  match k, hk with
  | 0, _ => exact WL_in (tb2 (List.mem_of_getElem? (i := 149) rfl)) rfl
  | 1, _ => exact WL_in (tb2 (List.mem_of_getElem? (i := 151) rfl)) rfl
  | 2, _ => exact WL_in (tb2 (List.mem_of_getElem? (i := 153) rfl)) rfl
  | 3, _ => exact WL_in (tb2 (List.mem_of_getElem? (i := 155) rfl)) rfl
  | 4, _ => exact WL_in (tb2 (List.mem_of_getElem? (i := 157) rfl)) rfl
  | 5, _ => exact WL_in (tb2 (List.mem_of_getElem? (i := 159) rfl)) rfl
  | 6, _ => exact WL_in (tb2 (List.mem_of_getElem? (i := 161) rfl)) rfl
  | 7, _ => exact WL_in (tb2 (List.mem_of_getElem? (i := 163) rfl)) rfl
  | 8, _ => exact WL_in (tb2 (List.mem_of_getElem? (i := 165) rfl)) rfl
  | 9, _ => exact WL_in (tb2 (List.mem_of_getElem? (i := 167) rfl)) rfl
  | 10, _ => exact WL_in (tb2 (List.mem_of_getElem? (i := 169) rfl)) rfl
  | 11, _ => exact WL_in (tb2 (List.mem_of_getElem? (i := 171) rfl)) rfl
  | k + 12, h => omega
theorem inlX12 : ∀ w ∈ u_ws RX12 TX12 41, w ∈ WL := by
  intro w hw
  obtain ⟨k, hk, rfl⟩ := List.mem_map.mp hw
  have hk := List.mem_range.mp hk
  match k, hk with
  | 0, _ => exact WL_in (tb5 (List.mem_of_getElem? (i := 176) rfl)) rfl
  | 1, _ => exact WL_in (tb5 (List.mem_of_getElem? (i := 178) rfl)) rfl
  | 2, _ => exact WL_in (tb5 (List.mem_of_getElem? (i := 180) rfl)) rfl
  | 3, _ => exact WL_in (tb5 (List.mem_of_getElem? (i := 182) rfl)) rfl
  | 4, _ => exact WL_in (tb5 (List.mem_of_getElem? (i := 184) rfl)) rfl
  | 5, _ => exact WL_in (tb5 (List.mem_of_getElem? (i := 186) rfl)) rfl
  | 6, _ => exact WL_in (tb5 (List.mem_of_getElem? (i := 188) rfl)) rfl
  | 7, _ => exact WL_in (tb5 (List.mem_of_getElem? (i := 190) rfl)) rfl
  | 8, _ => exact WL_in (tb5 (List.mem_of_getElem? (i := 192) rfl)) rfl
  | 9, _ => exact WL_in (tb5 (List.mem_of_getElem? (i := 194) rfl)) rfl
  | 10, _ => exact WL_in (tb5 (List.mem_of_getElem? (i := 196) rfl)) rfl
  | 11, _ => exact WL_in (tb5 (List.mem_of_getElem? (i := 198) rfl)) rfl
  | 12, _ => exact WL_in (tb5 (List.mem_of_getElem? (i := 200) rfl)) rfl
  | 13, _ => exact WL_in (tb5 (List.mem_of_getElem? (i := 202) rfl)) rfl
  | 14, _ => exact WL_in (tb5 (List.mem_of_getElem? (i := 204) rfl)) rfl
  | 15, _ => exact WL_in (tb5 (List.mem_of_getElem? (i := 206) rfl)) rfl
  | 16, _ => exact WL_in (tb5 (List.mem_of_getElem? (i := 208) rfl)) rfl
  | 17, _ => exact WL_in (tb5 (List.mem_of_getElem? (i := 210) rfl)) rfl
  | 18, _ => exact WL_in (tb5 (List.mem_of_getElem? (i := 212) rfl)) rfl
  | 19, _ => exact WL_in (tb5 (List.mem_of_getElem? (i := 214) rfl)) rfl
  | 20, _ => exact WL_in (tb5 (List.mem_of_getElem? (i := 216) rfl)) rfl
  | 21, _ => exact WL_in (tb5 (List.mem_of_getElem? (i := 218) rfl)) rfl
  | 22, _ => exact WL_in (tb5 (List.mem_of_getElem? (i := 220) rfl)) rfl
  | 23, _ => exact WL_in (tb5 (List.mem_of_getElem? (i := 222) rfl)) rfl
  | 24, _ => exact WL_in (tb5 (List.mem_of_getElem? (i := 224) rfl)) rfl
  | 25, _ => exact WL_in (tb5 (List.mem_of_getElem? (i := 226) rfl)) rfl
  | 26, _ => exact WL_in (tb5 (List.mem_of_getElem? (i := 228) rfl)) rfl
  | 27, _ => exact WL_in (tb5 (List.mem_of_getElem? (i := 230) rfl)) rfl
  | 28, _ => exact WL_in (tb5 (List.mem_of_getElem? (i := 232) rfl)) rfl
  | 29, _ => exact WL_in (tb5 (List.mem_of_getElem? (i := 234) rfl)) rfl
  | 30, _ => exact WL_in (tb5 (List.mem_of_getElem? (i := 236) rfl)) rfl
  | 31, _ => exact WL_in (tb5 (List.mem_of_getElem? (i := 238) rfl)) rfl
  | 32, _ => exact WL_in (tb6 (List.mem_of_getElem? (i := 0) rfl)) rfl
  | 33, _ => exact WL_in (tb6 (List.mem_of_getElem? (i := 2) rfl)) rfl
  | 34, _ => exact WL_in (tb6 (List.mem_of_getElem? (i := 4) rfl)) rfl
  | 35, _ => exact WL_in (tb6 (List.mem_of_getElem? (i := 6) rfl)) rfl
  | 36, _ => exact WL_in (tb6 (List.mem_of_getElem? (i := 8) rfl)) rfl
  | 37, _ => exact WL_in (tb6 (List.mem_of_getElem? (i := 10) rfl)) rfl
  | 38, _ => exact WL_in (tb6 (List.mem_of_getElem? (i := 12) rfl)) rfl
  | 39, _ => exact WL_in (tb6 (List.mem_of_getElem? (i := 14) rfl)) rfl
  | 40, _ => exact WL_in (tb6 (List.mem_of_getElem? (i := 16) rfl)) rfl
  | k + 41, h => omega
/-- a field that an instruction reads: class ci of vwCl, its field k -/
def FL (own : String) (index ci k : Nat) : Prop := ∃ (C : String) (T : u_T) (N : Nat), vwCl[ci]? = some (C, T, N) ∧ k < N ∧ (∀ w ∈ u_ws C T N, w ∈ WL) ∧ Cond.fieldLink own index (T k).1 (T k).2.1 (T k).2.2.1 ∈ WL
/-- a field that an instruction writes -/
def PL (own : String) (index ci k : Nat) (ty : FieldType) : Prop := ∃ (C : String) (T : u_T) (N : Nat) (ty0 : Nat → FieldType), vwCl[ci]? = some (C, T, N) ∧ k < N ∧ (∀ w ∈ u_ws C T N, w ∈ WL) ∧ Cond.fieldLink own index (T k).1 (T k).2.1 (T k).2.2.1 ∈ WL ∧ (∀ k, k < N → parseFieldDescriptor (T k).2.2.1 = some (ty0 k)) ∧ (∀ a, a < N → ∀ b, b < N → a ≠ b → (T a).2.1 ≠ (T b).2.1) ∧ (T k).2.2.2 = false ∧ parseFieldDescriptor (T k).2.2.1 = some ty
/-- a method that can be called: its words -/
def MI (C : String) (y : MethodName) (cc : ByteArray) (nL : Nat) (ret : Option FieldType) (n : Nat) : Prop := Cond.instanceMethod y ∈ WL ∧ Cond.selects C y y ∈ WL ∧ Cond.initialized C ∈ WL ∧ Cond.code y cc nL ret ∈ WL ∧ y.cls = C ∧ y.cls ≠ "java/lang/invoke/MethodHandle" ∧ y.cls ≠ "java/lang/invoke/VarHandle" ∧ (parseMethodDescriptor y.desc).map (fun d => d.parameters.length) = some n
def MS (y : MethodName) (cc : ByteArray) (nL : Nat) (ret : Option FieldType) (n : Nat) : Prop := Cond.static y ∈ WL ∧ Cond.initialized y.cls ∈ WL ∧ Cond.code y cc nL ret ∈ WL ∧ y.cls ≠ "java/lang/invoke/MethodHandle" ∧ y.cls ≠ "java/lang/invoke/VarHandle" ∧ (parseMethodDescriptor y.desc).map (fun d => d.parameters.length) = some n
/-- private methods and constructors of nest mates, as the tables have them -/
def NW : List (String × Nat × MethodName) := [(RX11, 11, yX8_init), (RX8, 9, yX3_init), (RX8, 18, yX7_init), (RX11, 18, yX1_init), (RX11, 25, yX6_init), (RX2, 24, yX8_init), (RX11, 52, yX9_init), (RX11, 59, yX0_init), (RX11, 66, yX4_init), (RX11, 73, yX10_init), (RX9, 86, yX11_isWordByte), (RX4, 71, yX11_columnFrom), (RX3, 65, yX11_within), (RX6, 50, yX11_isWordByte), (RX7, 56, yX11_mix)]
theorem nwX11_11 : (RX11, 11, yX8_init) ∈ NW := List.mem_of_getElem? (i := 0) rfl
theorem nwX8_9 : (RX8, 9, yX3_init) ∈ NW := List.mem_of_getElem? (i := 1) rfl
theorem nwX8_18 : (RX8, 18, yX7_init) ∈ NW := List.mem_of_getElem? (i := 2) rfl
theorem nwX11_18 : (RX11, 18, yX1_init) ∈ NW := List.mem_of_getElem? (i := 3) rfl
theorem nwX11_25 : (RX11, 25, yX6_init) ∈ NW := List.mem_of_getElem? (i := 4) rfl
theorem nwX2_24 : (RX2, 24, yX8_init) ∈ NW := List.mem_of_getElem? (i := 5) rfl
theorem nwX11_52 : (RX11, 52, yX9_init) ∈ NW := List.mem_of_getElem? (i := 6) rfl
theorem nwX11_59 : (RX11, 59, yX0_init) ∈ NW := List.mem_of_getElem? (i := 7) rfl
theorem nwX11_66 : (RX11, 66, yX4_init) ∈ NW := List.mem_of_getElem? (i := 8) rfl
theorem nwX11_73 : (RX11, 73, yX10_init) ∈ NW := List.mem_of_getElem? (i := 9) rfl
theorem nwX9_86 : (RX9, 86, yX11_isWordByte) ∈ NW := List.mem_of_getElem? (i := 10) rfl
theorem nwX4_71 : (RX4, 71, yX11_columnFrom) ∈ NW := List.mem_of_getElem? (i := 11) rfl
theorem nwX3_65 : (RX3, 65, yX11_within) ∈ NW := List.mem_of_getElem? (i := 12) rfl
theorem nwX6_50 : (RX6, 50, yX11_isWordByte) ∈ NW := List.mem_of_getElem? (i := 13) rfl
theorem nwX7_56 : (RX7, 56, yX11_mix) ∈ NW := List.mem_of_getElem? (i := 14) rfl
theorem NW_tbl : ∀ q ∈ NW, Cond.methodLinkNest q.1 q.2.1 q.2.2 "AutoIndenter" ∈ lw_tbl := by
  simp only [NW, List.forall_mem_cons]
  exact ⟨tb1 (List.mem_of_getElem? (i := 31) rfl), tb1 (List.mem_of_getElem? (i := 37) rfl), tb1 (List.mem_of_getElem? (i := 84) rfl), tb1 (List.mem_of_getElem? (i := 147) rfl), tb1 (List.mem_of_getElem? (i := 164) rfl), tb1 (List.mem_of_getElem? (i := 188) rfl), tb1 (List.mem_of_getElem? (i := 204) rfl), tb2 (List.mem_of_getElem? (i := 23) rfl), tb2 (List.mem_of_getElem? (i := 89) rfl), tb2 (List.mem_of_getElem? (i := 118) rfl), tb3 (List.mem_of_getElem? (i := 97) rfl), tb3 (List.mem_of_getElem? (i := 188) rfl), tb3 (List.mem_of_getElem? (i := 220) rfl), tb4 (List.mem_of_getElem? (i := 56) rfl), tb5 (List.mem_of_getElem? (i := 124) rfl), fun _ h => absurd h List.not_mem_nil⟩
