def RX0 : String := "RedoMachine$Engine"
def TX0 : u_T := fun k => match k with
  | 0 => ("RedoMachine$Engine", "stack", "LRedoMachine$Stack;", true)
  | 1 => ("RedoMachine$Engine", "heap", "LRedoMachine$Heap;", true)
  | 2 => ("RedoMachine$Engine", "state", "I", false)
  | 3 => ("RedoMachine$Engine", "steps", "I", false)
  | 4 => ("RedoMachine$Engine", "solutions", "I", false)
  | 5 => ("RedoMachine$Engine", "work", "LRedoMachine$Frame;", false)
  | _ => ("RedoMachine$Engine", "next", "I", false)
def tyX0 : Nat → FieldType := fun k => match k with
  | 0 => .object "RedoMachine$Stack"
  | 1 => .object "RedoMachine$Heap"
  | 2 => .int
  | 3 => .int
  | 4 => .int
  | 5 => .object "RedoMachine$Frame"
  | _ => .int
theorem nmX0 : ∀ a, a < 7 → ∀ b, b < 7 → a ≠ b → (TX0 a).2.1 ≠ (TX0 b).2.1 := by decide +kernel
theorem tyX0_ok : ∀ k, k < 7 → parseFieldDescriptor (TX0 k).2.2.1 = some (tyX0 k) := by decide +kernel
abbrev cX0_init : ByteArray := prog_2_method_1_code
def yX0_init : MethodName := ⟨RX0, "<init>", "()V"⟩
abbrev cX0_start : ByteArray := prog_2_method_2_code
def yX0_start : MethodName := ⟨RX0, "start", "(LRedoMachine$Procedure;[III)V"⟩
abbrev cX0_advance : ByteArray := prog_2_method_3_code
def yX0_advance : MethodName := ⟨RX0, "advance", "(I)I"⟩
abbrev cX0_figure : ByteArray := prog_2_method_4_code
def yX0_figure : MethodName := ⟨RX0, "figure", "(I)I"⟩
abbrev cX0_hasOut : ByteArray := prog_2_method_5_code
def yX0_hasOut : MethodName := ⟨RX0, "hasOut", "(I)Z"⟩
abbrev cX0_outValue : ByteArray := prog_2_method_6_code
def yX0_outValue : MethodName := ⟨RX0, "outValue", "(I)J"⟩
abbrev cX0_slotSeen : ByteArray := prog_2_method_7_code
def yX0_slotSeen : MethodName := ⟨RX0, "slotSeen", "(I)J"⟩
abbrev cX0_step : ByteArray := prog_2_method_8_code
def yX0_step : MethodName := ⟨RX0, "step", "(LRedoMachine$Frame;)I"⟩
abbrev cX0_settle : ByteArray := prog_2_method_9_code
def yX0_settle : MethodName := ⟨RX0, "settle", "(I)V"⟩
abbrev cX0_become : ByteArray := prog_2_method_10_code
def yX0_become : MethodName := ⟨RX0, "become", "(LRedoMachine$Frame;IJ)I"⟩
abbrev cX0_go : ByteArray := prog_2_method_11_code
def yX0_go : MethodName := ⟨RX0, "go", "(I)I"⟩
abbrev cX0_make : ByteArray := prog_2_method_12_code
def yX0_make : MethodName := ⟨RX0, "make", "(LRedoMachine$Frame;LRedoMachine$Instruction;)I"⟩
abbrev cX0_take : ByteArray := prog_2_method_13_code
def yX0_take : MethodName := ⟨RX0, "take", "(LRedoMachine$Frame;LRedoMachine$Instruction;)I"⟩
abbrev cX0_sum : ByteArray := prog_2_method_14_code
def yX0_sum : MethodName := ⟨RX0, "sum", "(LRedoMachine$Frame;LRedoMachine$Instruction;)I"⟩
abbrev cX0_result : ByteArray := prog_2_method_15_code
def yX0_result : MethodName := ⟨RX0, "result", "(III)I"⟩
abbrev cX0_compare : ByteArray := prog_2_method_16_code
def yX0_compare : MethodName := ⟨RX0, "compare", "(LRedoMachine$Frame;LRedoMachine$Instruction;)I"⟩
abbrev cX0_holds : ByteArray := prog_2_method_17_code
def yX0_holds : MethodName := ⟨RX0, "holds", "(IJJ)Z"⟩
abbrev cX0_leaveRedo : ByteArray := prog_2_method_18_code
def yX0_leaveRedo : MethodName := ⟨RX0, "leaveRedo", "(LRedoMachine$Frame;I)I"⟩
abbrev cX0_call : ByteArray := prog_2_method_19_code
def yX0_call : MethodName := ⟨RX0, "call", "(LRedoMachine$Frame;LRedoMachine$Instruction;)I"⟩
abbrev cX0_cut : ByteArray := prog_2_method_20_code
def yX0_cut : MethodName := ⟨RX0, "cut", "(LRedoMachine$Frame;J)I"⟩
abbrev cX0_drop : ByteArray := prog_2_method_21_code
def yX0_drop : MethodName := ⟨RX0, "drop", "(J)I"⟩
abbrev cX0_exit : ByteArray := prog_2_method_22_code
def yX0_exit : MethodName := ⟨RX0, "exit", "(LRedoMachine$Frame;)I"⟩
abbrev cX0_fail : ByteArray := prog_2_method_23_code
def yX0_fail : MethodName := ⟨RX0, "fail", "()V"⟩
def RX1 : String := "RedoMachine$Frame"
def TX1 : u_T := fun k => match k with
  | 0 => ("RedoMachine$Frame", "number", "I", true)
  | 1 => ("RedoMachine$Frame", "procedure", "LRedoMachine$Procedure;", false)
  | 2 => ("RedoMachine$Frame", "base", "I", false)
  | 3 => ("RedoMachine$Frame", "caller", "LRedoMachine$Frame;", false)
  | 4 => ("RedoMachine$Frame", "call", "LRedoMachine$Instruction;", false)
  | 5 => ("RedoMachine$Frame", "back", "I", false)
  | _ => ("RedoMachine$Frame", "redosAtCall", "I", false)
def tyX1 : Nat → FieldType := fun k => match k with
  | 0 => .int
  | 1 => .object "RedoMachine$Procedure"
  | 2 => .int
  | 3 => .object "RedoMachine$Frame"
  | 4 => .object "RedoMachine$Instruction"
  | 5 => .int
  | _ => .int
theorem nmX1 : ∀ a, a < 7 → ∀ b, b < 7 → a ≠ b → (TX1 a).2.1 ≠ (TX1 b).2.1 := by decide +kernel
theorem tyX1_ok : ∀ k, k < 7 → parseFieldDescriptor (TX1 k).2.2.1 = some (tyX1 k) := by decide +kernel
abbrev cX1_init : ByteArray := prog_3_method_1_code
def yX1_init : MethodName := ⟨RX1, "<init>", "(ILRedoMachine$Procedure;)V"⟩
def RX2 : String := "RedoMachine$Heap"
def TX2 : u_T := fun k => match k with
  | 0 => ("RedoMachine$Heap", "words", "LRedoMachine$LongRow;", true)
  | 1 => ("RedoMachine$Heap", "pending", "LRedoMachine$LongRow;", true)
  | 2 => ("RedoMachine$Heap", "limit", "I", false)
  | _ => ("RedoMachine$Heap", "greatest", "I", false)
def tyX2 : Nat → FieldType := fun k => match k with
  | 0 => .object "RedoMachine$LongRow"
  | 1 => .object "RedoMachine$LongRow"
  | 2 => .int
  | _ => .int
theorem nmX2 : ∀ a, a < 4 → ∀ b, b < 4 → a ≠ b → (TX2 a).2.1 ≠ (TX2 b).2.1 := by decide +kernel
theorem tyX2_ok : ∀ k, k < 4 → parseFieldDescriptor (TX2 k).2.2.1 = some (tyX2 k) := by decide +kernel
abbrev cX2_init : ByteArray := prog_4_method_1_code
def yX2_init : MethodName := ⟨RX2, "<init>", "()V"⟩
abbrev cX2_clear : ByteArray := prog_4_method_2_code
def yX2_clear : MethodName := ⟨RX2, "clear", "(I)V"⟩
abbrev cX2_used : ByteArray := prog_4_method_3_code
def yX2_used : MethodName := ⟨RX2, "used", "()I"⟩
abbrev cX2_goBackTo : ByteArray := prog_4_method_4_code
def yX2_goBackTo : MethodName := ⟨RX2, "goBackTo", "(I)V"⟩
abbrev cX2_hasRoom : ByteArray := prog_4_method_5_code
def yX2_hasRoom : MethodName := ⟨RX2, "hasRoom", "(I)Z"⟩
abbrev cX2_open : ByteArray := prog_4_method_6_code
def yX2_open : MethodName := ⟨RX2, "open", "(II)J"⟩
abbrev cX2_fill : ByteArray := prog_4_method_7_code
def yX2_fill : MethodName := ⟨RX2, "fill", "(J)V"⟩
abbrev cX2_field : ByteArray := prog_4_method_8_code
def yX2_field : MethodName := ⟨RX2, "field", "(JI)J"⟩
abbrev cX2_compare : ByteArray := prog_4_method_9_code
def yX2_compare : MethodName := ⟨RX2, "compare", "(JJ)I"⟩
abbrev cX2_awaitFields : ByteArray := prog_4_method_10_code
def yX2_awaitFields : MethodName := ⟨RX2, "awaitFields", "(JJ)V"⟩
def RX3 : String := "RedoMachine$Instruction"
def TX3 : u_T := fun k => match k with
  | 0 => ("RedoMachine$Instruction", "kind", "I", true)
  | 1 => ("RedoMachine$Instruction", "a", "I", true)
  | 2 => ("RedoMachine$Instruction", "b", "I", true)
  | 3 => ("RedoMachine$Instruction", "c", "I", true)
  | 4 => ("RedoMachine$Instruction", "d", "I", true)
  | 5 => ("RedoMachine$Instruction", "row", "[I", true)
  | _ => ("RedoMachine$Instruction", "callee", "LRedoMachine$Procedure;", false)
def tyX3 : Nat → FieldType := fun k => match k with
  | 0 => .int
  | 1 => .int
  | 2 => .int
  | 3 => .int
  | 4 => .int
  | 5 => .array .int
  | _ => .object "RedoMachine$Procedure"
theorem nmX3 : ∀ a, a < 7 → ∀ b, b < 7 → a ≠ b → (TX3 a).2.1 ≠ (TX3 b).2.1 := by decide +kernel
theorem tyX3_ok : ∀ k, k < 7 → parseFieldDescriptor (TX3 k).2.2.1 = some (tyX3 k) := by decide +kernel
abbrev cX3_init : ByteArray := prog_5_method_1_code
def yX3_init : MethodName := ⟨RX3, "<init>", "(IIIII[I)V"⟩
def RX4 : String := "RedoMachine$LongRow"
def TX4 : u_T := fun k => match k with
  | 0 => ("RedoMachine$LongRow", "items", "[J", false)
  | _ => ("RedoMachine$LongRow", "size", "I", false)
def tyX4 : Nat → FieldType := fun k => match k with
  | 0 => .array .long
  | _ => .int
theorem nmX4 : ∀ a, a < 2 → ∀ b, b < 2 → a ≠ b → (TX4 a).2.1 ≠ (TX4 b).2.1 := by decide +kernel
theorem tyX4_ok : ∀ k, k < 2 → parseFieldDescriptor (TX4 k).2.2.1 = some (tyX4 k) := by decide +kernel
abbrev cX4_init : ByteArray := prog_6_method_1_code
def yX4_init : MethodName := ⟨RX4, "<init>", "()V"⟩
abbrev cX4_size : ByteArray := prog_6_method_2_code
def yX4_size : MethodName := ⟨RX4, "size", "()I"⟩
abbrev cX4_at : ByteArray := prog_6_method_3_code
def yX4_at : MethodName := ⟨RX4, "at", "(I)J"⟩
abbrev cX4_set : ByteArray := prog_6_method_4_code
def yX4_set : MethodName := ⟨RX4, "set", "(IJ)V"⟩
abbrev cX4_push : ByteArray := prog_6_method_5_code
def yX4_push : MethodName := ⟨RX4, "push", "(J)V"⟩
abbrev cX4_pop : ByteArray := prog_6_method_6_code
def yX4_pop : MethodName := ⟨RX4, "pop", "()J"⟩
abbrev cX4_shrink : ByteArray := prog_6_method_7_code
def yX4_shrink : MethodName := ⟨RX4, "shrink", "(I)V"⟩
def RX5 : String := "RedoMachine$Procedure"
def TX5 : u_T := fun k => match k with
  | 0 => ("RedoMachine$Procedure", "again", "Z", true)
  | 1 => ("RedoMachine$Procedure", "slots", "I", true)
  | 2 => ("RedoMachine$Procedure", "ins", "I", true)
  | 3 => ("RedoMachine$Procedure", "outs", "[I", true)
  | _ => ("RedoMachine$Procedure", "instructions", "Ljava/util/ArrayList;", true)
def tyX5 : Nat → FieldType := fun k => match k with
  | 0 => .boolean
  | 1 => .int
  | 2 => .int
  | 3 => .array .int
  | _ => .object "java/util/ArrayList"
theorem nmX5 : ∀ a, a < 5 → ∀ b, b < 5 → a ≠ b → (TX5 a).2.1 ≠ (TX5 b).2.1 := by decide +kernel
theorem tyX5_ok : ∀ k, k < 5 → parseFieldDescriptor (TX5 k).2.2.1 = some (tyX5 k) := by decide +kernel
abbrev cX5_init : ByteArray := prog_7_method_1_code
def yX5_init : MethodName := ⟨RX5, "<init>", "(ZII[I)V"⟩
abbrev cX5_fits : ByteArray := prog_7_method_2_code
def yX5_fits : MethodName := ⟨RX5, "fits", "(II[I)Z"⟩
abbrev cX5_allWithin : ByteArray := prog_7_method_3_code
def yX5_allWithin : MethodName := ⟨RX5, "allWithin", "([II)Z"⟩
abbrev cX5_frameSize : ByteArray := prog_7_method_4_code
def yX5_frameSize : MethodName := ⟨RX5, "frameSize", "()I"⟩
abbrev cX5_append : ByteArray := prog_7_method_5_code
def yX5_append : MethodName := ⟨RX5, "append", "(LRedoMachine$Instruction;)I"⟩
abbrev cX5_instructionAt : ByteArray := prog_7_method_6_code
def yX5_instructionAt : MethodName := ⟨RX5, "instructionAt", "(I)LRedoMachine$Instruction;"⟩
abbrev cX5_admits : ByteArray := prog_7_method_7_code
def yX5_admits : MethodName := ⟨RX5, "admits", "(LRedoMachine$Instruction;)Z"⟩
abbrev cX5_admitsCall : ByteArray := prog_7_method_8_code
def yX5_admitsCall : MethodName := ⟨RX5, "admitsCall", "(LRedoMachine$Instruction;)Z"⟩
abbrev cX5_hasSlot : ByteArray := prog_7_method_9_code
def yX5_hasSlot : MethodName := ⟨RX5, "hasSlot", "(I)Z"⟩
def RX6 : String := "RedoMachine$Redo"
def TX6 : u_T := fun k => match k with
  | 0 => ("RedoMachine$Redo", "frame", "LRedoMachine$Frame;", false)
  | 1 => ("RedoMachine$Redo", "instruction", "I", false)
  | 2 => ("RedoMachine$Redo", "dead", "Z", false)
  | 3 => ("RedoMachine$Redo", "framesBelow", "I", false)
  | 4 => ("RedoMachine$Redo", "valuesBelow", "I", false)
  | 5 => ("RedoMachine$Redo", "trailBelow", "I", false)
  | _ => ("RedoMachine$Redo", "heapThen", "I", false)
def tyX6 : Nat → FieldType := fun k => match k with
  | 0 => .object "RedoMachine$Frame"
  | 1 => .int
  | 2 => .boolean
  | 3 => .int
  | 4 => .int
  | 5 => .int
  | _ => .int
theorem nmX6 : ∀ a, a < 7 → ∀ b, b < 7 → a ≠ b → (TX6 a).2.1 ≠ (TX6 b).2.1 := by decide +kernel
theorem tyX6_ok : ∀ k, k < 7 → parseFieldDescriptor (TX6 k).2.2.1 = some (tyX6 k) := by decide +kernel
abbrev cX6_init : ByteArray := prog_8_method_1_code
def yX6_init : MethodName := ⟨RX6, "<init>", "(LRedoMachine$Frame;)V"⟩
def RX7 : String := "RedoMachine$Stack"
def TX7 : u_T := fun k => match k with
  | 0 => ("RedoMachine$Stack", "frames", "Ljava/util/ArrayList;", true)
  | 1 => ("RedoMachine$Stack", "frameCount", "I", false)
  | 2 => ("RedoMachine$Stack", "redos", "Ljava/util/ArrayList;", true)
  | 3 => ("RedoMachine$Stack", "redoCount", "I", false)
  | 4 => ("RedoMachine$Stack", "values", "LRedoMachine$LongRow;", true)
  | 5 => ("RedoMachine$Stack", "trail", "LRedoMachine$LongRow;", true)
  | 6 => ("RedoMachine$Stack", "limit", "I", false)
  | _ => ("RedoMachine$Stack", "greatest", "I", false)
def tyX7 : Nat → FieldType := fun k => match k with
  | 0 => .object "java/util/ArrayList"
  | 1 => .int
  | 2 => .object "java/util/ArrayList"
  | 3 => .int
  | 4 => .object "RedoMachine$LongRow"
  | 5 => .object "RedoMachine$LongRow"
  | 6 => .int
  | _ => .int
theorem nmX7 : ∀ a, a < 8 → ∀ b, b < 8 → a ≠ b → (TX7 a).2.1 ≠ (TX7 b).2.1 := by decide +kernel
theorem tyX7_ok : ∀ k, k < 8 → parseFieldDescriptor (TX7 k).2.2.1 = some (tyX7 k) := by decide +kernel
abbrev cX7_init : ByteArray := prog_9_method_1_code
def yX7_init : MethodName := ⟨RX7, "<init>", "()V"⟩
abbrev cX7_clear : ByteArray := prog_9_method_2_code
def yX7_clear : MethodName := ⟨RX7, "clear", "(I)V"⟩
abbrev cX7_size : ByteArray := prog_9_method_3_code
def yX7_size : MethodName := ⟨RX7, "size", "()I"⟩
abbrev cX7_hasRoom : ByteArray := prog_9_method_4_code
def yX7_hasRoom : MethodName := ⟨RX7, "hasRoom", "(I)Z"⟩
abbrev cX7_noteSize : ByteArray := prog_9_method_5_code
def yX7_noteSize : MethodName := ⟨RX7, "noteSize", "()V"⟩
abbrev cX7_pushFrame : ByteArray := prog_9_method_6_code
def yX7_pushFrame : MethodName := ⟨RX7, "pushFrame", "(LRedoMachine$Procedure;)LRedoMachine$Frame;"⟩
abbrev cX7_pushRedo : ByteArray := prog_9_method_7_code
def yX7_pushRedo : MethodName := ⟨RX7, "pushRedo", "(LRedoMachine$Frame;II)V"⟩
abbrev cX7_redoAt : ByteArray := prog_9_method_8_code
def yX7_redoAt : MethodName := ⟨RX7, "redoAt", "(I)LRedoMachine$Redo;"⟩
abbrev cX7_read : ByteArray := prog_9_method_9_code
def yX7_read : MethodName := ⟨RX7, "read", "(LRedoMachine$Frame;I)J"⟩
abbrev cX7_write : ByteArray := prog_9_method_10_code
def yX7_write : MethodName := ⟨RX7, "write", "(LRedoMachine$Frame;IJ)V"⟩
abbrev cX7_cutTo : ByteArray := prog_9_method_11_code
def yX7_cutTo : MethodName := ⟨RX7, "cutTo", "(ILRedoMachine$Frame;)V"⟩
abbrev cX7_keepFrames : ByteArray := prog_9_method_12_code
def yX7_keepFrames : MethodName := ⟨RX7, "keepFrames", "(I)V"⟩
abbrev cX7_dropRedo : ByteArray := prog_9_method_13_code
def yX7_dropRedo : MethodName := ⟨RX7, "dropRedo", "(I)V"⟩
abbrev cX7_leave : ByteArray := prog_9_method_14_code
def yX7_leave : MethodName := ⟨RX7, "leave", "(LRedoMachine$Frame;)V"⟩
abbrev cX7_popRedo : ByteArray := prog_9_method_15_code
def yX7_popRedo : MethodName := ⟨RX7, "popRedo", "()LRedoMachine$Redo;"⟩
abbrev cX7_goBackTo : ByteArray := prog_9_method_16_code
def yX7_goBackTo : MethodName := ⟨RX7, "goBackTo", "(LRedoMachine$Redo;)V"⟩
def RX8 : String := "RedoMachine$Text"
def TX8 : u_T := fun k => match k with
  | 0 => ("RedoMachine$Text", "characters", "[C", true)
  | 1 => ("RedoMachine$Text", "length", "I", false)
  | 2 => ("RedoMachine$Text", "digits", "[C", true)
  | _ => ("RedoMachine$Text", "open", "LRedoMachine$LongRow;", true)
def tyX8 : Nat → FieldType := fun k => match k with
  | 0 => .array .char
  | 1 => .int
  | 2 => .array .char
  | _ => .object "RedoMachine$LongRow"
theorem nmX8 : ∀ a, a < 4 → ∀ b, b < 4 → a ≠ b → (TX8 a).2.1 ≠ (TX8 b).2.1 := by decide +kernel
theorem tyX8_ok : ∀ k, k < 4 → parseFieldDescriptor (TX8 k).2.2.1 = some (tyX8 k) := by decide +kernel
abbrev cX8_init : ByteArray := prog_10_method_1_code
def yX8_init : MethodName := ⟨RX8, "<init>", "()V"⟩
abbrev cX8_write : ByteArray := prog_10_method_2_code
def yX8_write : MethodName := ⟨RX8, "write", "(JLRedoMachine$Heap;)I"⟩
abbrev cX8_writeCharacter : ByteArray := prog_10_method_3_code
def yX8_writeCharacter : MethodName := ⟨RX8, "writeCharacter", "(C)V"⟩
abbrev cX8_writeHead : ByteArray := prog_10_method_4_code
def yX8_writeHead : MethodName := ⟨RX8, "writeHead", "(J)V"⟩
abbrev cX8_writeNumber : ByteArray := prog_10_method_5_code
def yX8_writeNumber : MethodName := ⟨RX8, "writeNumber", "(J)V"⟩
abbrev cX8_writeMore : ByteArray := prog_10_method_6_code
def yX8_writeMore : MethodName := ⟨RX8, "writeMore", "(LRedoMachine$Heap;)V"⟩
abbrev cX8_characterAt : ByteArray := prog_10_method_7_code
def yX8_characterAt : MethodName := ⟨RX8, "characterAt", "(I)I"⟩
def RX9 : String := "RedoMachine$Value"
def TX9 : u_T := fun k => match k with
  | _ => ("", "", "", false)
def tyX9 : Nat → FieldType := fun k => match k with
  | _ => .int
theorem nmX9 : ∀ a, a < 0 → ∀ b, b < 0 → a ≠ b → (TX9 a).2.1 ≠ (TX9 b).2.1 := by decide +kernel
theorem tyX9_ok : ∀ k, k < 0 → parseFieldDescriptor (TX9 k).2.2.1 = some (tyX9 k) := by decide +kernel
abbrev cX9_cell : ByteArray := prog_11_method_2_code
def yX9_cell : MethodName := ⟨RX9, "cell", "(III)J"⟩
abbrev cX9_isCell : ByteArray := prog_11_method_3_code
def yX9_isCell : MethodName := ⟨RX9, "isCell", "(J)Z"⟩
abbrev cX9_tag : ByteArray := prog_11_method_4_code
def yX9_tag : MethodName := ⟨RX9, "tag", "(J)I"⟩
abbrev cX9_fields : ByteArray := prog_11_method_5_code
def yX9_fields : MethodName := ⟨RX9, "fields", "(J)I"⟩
abbrev cX9_place : ByteArray := prog_11_method_6_code
def yX9_place : MethodName := ⟨RX9, "place", "(J)I"⟩
abbrev cX9_hasTag : ByteArray := prog_11_method_7_code
def yX9_hasTag : MethodName := ⟨RX9, "hasTag", "(JI)Z"⟩
abbrev cX9_differ : ByteArray := prog_11_method_8_code
def yX9_differ : MethodName := ⟨RX9, "differ", "(JJ)Z"⟩
abbrev cX9_shown : ByteArray := prog_11_method_9_code
def yX9_shown : MethodName := ⟨RX9, "shown", "(J)J"⟩
def RX10 : String := "RedoMachine"
def TX10 : u_T := fun k => match k with
  | 0 => ("RedoMachine", "row", "[I", true)
  | 1 => ("RedoMachine", "rowCount", "I", false)
  | 2 => ("RedoMachine", "procedures", "Ljava/util/ArrayList;", true)
  | 3 => ("RedoMachine", "instructionCount", "I", false)
  | 4 => ("RedoMachine", "engine", "LRedoMachine$Engine;", true)
  | _ => ("RedoMachine", "out", "LRedoMachine$Text;", true)
def tyX10 : Nat → FieldType := fun k => match k with
  | 0 => .array .int
  | 1 => .int
  | 2 => .object "java/util/ArrayList"
  | 3 => .int
  | 4 => .object "RedoMachine$Engine"
  | _ => .object "RedoMachine$Text"
theorem nmX10 : ∀ a, a < 6 → ∀ b, b < 6 → a ≠ b → (TX10 a).2.1 ≠ (TX10 b).2.1 := by decide +kernel
theorem tyX10_ok : ∀ k, k < 6 → parseFieldDescriptor (TX10 k).2.2.1 = some (tyX10 k) := by decide +kernel
abbrev cX10_init : ByteArray := prog_1_method_1_code
def yX10_init : MethodName := ⟨RX10, "<init>", "()V"⟩
abbrev cX10_put : ByteArray := prog_1_method_2_code
def yX10_put : MethodName := ⟨RX10, "put", "(I)Z"⟩
abbrev cX10_procedure : ByteArray := prog_1_method_3_code
def yX10_procedure : MethodName := ⟨RX10, "procedure", "(ZII)I"⟩
abbrev cX10_add : ByteArray := prog_1_method_4_code
def yX10_add : MethodName := ⟨RX10, "add", "(IIIIII)I"⟩
abbrev cX10_begin : ByteArray := prog_1_method_5_code
def yX10_begin : MethodName := ⟨RX10, "begin", "(III)Z"⟩
abbrev cX10_run : ByteArray := prog_1_method_6_code
def yX10_run : MethodName := ⟨RX10, "run", "(I)I"⟩
abbrev cX10_told : ByteArray := prog_1_method_7_code
def yX10_told : MethodName := ⟨RX10, "told", "(I)I"⟩
abbrev cX10_tell : ByteArray := prog_1_method_8_code
def yX10_tell : MethodName := ⟨RX10, "tell", "(I)I"⟩
abbrev cX10_letter : ByteArray := prog_1_method_9_code
def yX10_letter : MethodName := ⟨RX10, "letter", "(I)I"⟩
abbrev cX10_slot : ByteArray := prog_1_method_10_code
def yX10_slot : MethodName := ⟨RX10, "slot", "(I)J"⟩
abbrev cX10_takeRow : ByteArray := prog_1_method_11_code
def yX10_takeRow : MethodName := ⟨RX10, "takeRow", "()[I"⟩
abbrev cX10_procedureAt : ByteArray := prog_1_method_12_code
def yX10_procedureAt : MethodName := ⟨RX10, "procedureAt", "(I)LRedoMachine$Procedure;"⟩
abbrev cX10_within : ByteArray := prog_1_method_13_code
def yX10_within : MethodName := ⟨RX10, "within", "(II)Z"⟩
abbrev cX10_isLimit : ByteArray := prog_1_method_14_code
def yX10_isLimit : MethodName := ⟨RX10, "isLimit", "(I)Z"⟩
def RX11 : String := "RedoMachineModel"
def TX11 : u_T := fun k => match k with
  | 0 => ("RedoMachineModel", "thrown", "I", false)
  | 1 => ("RedoMachineModel", "row", "[I", true)
  | 2 => ("RedoMachineModel", "rowMany", "I", false)
  | 3 => ("RedoMachineModel", "procedures", "I", false)
  | 4 => ("RedoMachineModel", "again", "[Z", true)
  | 5 => ("RedoMachineModel", "slots", "[I", true)
  | 6 => ("RedoMachineModel", "ins", "[I", true)
  | 7 => ("RedoMachineModel", "outMany", "[I", true)
  | 8 => ("RedoMachineModel", "out", "[I", true)
  | 9 => ("RedoMachineModel", "count", "[I", true)
  | 10 => ("RedoMachineModel", "spot", "[I", true)
  | 11 => ("RedoMachineModel", "instructions", "I", false)
  | 12 => ("RedoMachineModel", "what", "[I", true)
  | 13 => ("RedoMachineModel", "one", "[I", true)
  | 14 => ("RedoMachineModel", "two", "[I", true)
  | 15 => ("RedoMachineModel", "three", "[I", true)
  | 16 => ("RedoMachineModel", "four", "[I", true)
  | 17 => ("RedoMachineModel", "many", "[I", true)
  | 18 => ("RedoMachineModel", "rows", "[I", true)
  | 19 => ("RedoMachineModel", "cells", "I", false)
  | 20 => ("RedoMachineModel", "tag", "[I", true)
  | 21 => ("RedoMachineModel", "cellMany", "[I", true)
  | 22 => ("RedoMachineModel", "cellFirst", "[I", true)
  | 23 => ("RedoMachineModel", "field", "[J", true)
  | 24 => ("RedoMachineModel", "fields", "I", false)
  | 25 => ("RedoMachineModel", "heap", "I", false)
  | 26 => ("RedoMachineModel", "things", "I", false)
  | 27 => ("RedoMachineModel", "isFrame", "[Z", true)
  | 28 => ("RedoMachineModel", "procedure", "[I", true)
  | 29 => ("RedoMachineModel", "from", "[I", true)
  | 30 => ("RedoMachineModel", "next", "[I", true)
  | 31 => ("RedoMachineModel", "caller", "[I", true)
  | 32 => ("RedoMachineModel", "callAt", "[I", true)
  | 33 => ("RedoMachineModel", "redosThen", "[I", true)
  | 34 => ("RedoMachineModel", "dead", "[Z", true)
  | 35 => ("RedoMachineModel", "heapThen", "[I", true)
  | 36 => ("RedoMachineModel", "cellsThen", "[I", true)
  | 37 => ("RedoMachineModel", "fieldsThen", "[I", true)
  | 38 => ("RedoMachineModel", "trailThen", "[I", true)
  | 39 => ("RedoMachineModel", "slot", "[J", true)
  | 40 => ("RedoMachineModel", "slotTop", "I", false)
  | 41 => ("RedoMachineModel", "trail", "I", false)
  | 42 => ("RedoMachineModel", "trailSlot", "[I", true)
  | 43 => ("RedoMachineModel", "trailValue", "[J", true)
  | 44 => ("RedoMachineModel", "state", "I", false)
  | 45 => ("RedoMachineModel", "work", "I", false)
  | 46 => ("RedoMachineModel", "steps", "I", false)
  | 47 => ("RedoMachineModel", "size", "I", false)
  | 48 => ("RedoMachineModel", "mostSize", "I", false)
  | 49 => ("RedoMachineModel", "mostHeap", "I", false)
  | 50 => ("RedoMachineModel", "solutions", "I", false)
  | 51 => ("RedoMachineModel", "stackLimit", "I", false)
  | 52 => ("RedoMachineModel", "heapLimit", "I", false)
  | 53 => ("RedoMachineModel", "letters", "[I", true)
  | 54 => ("RedoMachineModel", "letterMany", "I", false)
  | 55 => ("RedoMachineModel", "left", "[J", true)
  | 56 => ("RedoMachineModel", "right", "[J", true)
  | 57 => ("RedoMachineModel", "moved", "[I", true)
  | _ => ("RedoMachineModel", "firstMoved", "I", false)
def tyX11 : Nat → FieldType := fun k => match k with
  | 0 => .int
  | 1 => .array .int
  | 2 => .int
  | 3 => .int
  | 4 => .array .boolean
  | 5 => .array .int
  | 6 => .array .int
  | 7 => .array .int
  | 8 => .array .int
  | 9 => .array .int
  | 10 => .array .int
  | 11 => .int
  | 12 => .array .int
  | 13 => .array .int
  | 14 => .array .int
  | 15 => .array .int
  | 16 => .array .int
  | 17 => .array .int
  | 18 => .array .int
  | 19 => .int
  | 20 => .array .int
  | 21 => .array .int
  | 22 => .array .int
  | 23 => .array .long
  | 24 => .int
  | 25 => .int
  | 26 => .int
  | 27 => .array .boolean
  | 28 => .array .int
  | 29 => .array .int
  | 30 => .array .int
  | 31 => .array .int
  | 32 => .array .int
  | 33 => .array .int
  | 34 => .array .boolean
  | 35 => .array .int
  | 36 => .array .int
  | 37 => .array .int
  | 38 => .array .int
  | 39 => .array .long
  | 40 => .int
  | 41 => .int
  | 42 => .array .int
  | 43 => .array .long
  | 44 => .int
  | 45 => .int
  | 46 => .int
  | 47 => .int
  | 48 => .int
  | 49 => .int
  | 50 => .int
  | 51 => .int
  | 52 => .int
  | 53 => .array .int
  | 54 => .int
  | 55 => .array .long
  | 56 => .array .long
  | 57 => .array .int
  | _ => .int
theorem nmX11 : ∀ a, a < 59 → ∀ b, b < 59 → a ≠ b → (TX11 a).2.1 ≠ (TX11 b).2.1 := by decide +kernel
theorem tyX11_ok : ∀ k, k < 59 → parseFieldDescriptor (TX11 k).2.2.1 = some (tyX11 k) := by decide +kernel
abbrev cX11_init : ByteArray := prog_13_method_1_code
def yX11_init : MethodName := ⟨RX11, "<init>", "()V"⟩
abbrev cX11_thrown : ByteArray := prog_13_method_2_code
def yX11_thrown : MethodName := ⟨RX11, "thrown", "()I"⟩
abbrev cX11_put : ByteArray := prog_13_method_3_code
def yX11_put : MethodName := ⟨RX11, "put", "(I)Z"⟩
abbrev cX11_taken : ByteArray := prog_13_method_4_code
def yX11_taken : MethodName := ⟨RX11, "taken", "()I"⟩
abbrev cX11_isWithin : ByteArray := prog_13_method_5_code
def yX11_isWithin : MethodName := ⟨RX11, "isWithin", "(III)Z"⟩
abbrev cX11_areSlots : ByteArray := prog_13_method_6_code
def yX11_areSlots : MethodName := ⟨RX11, "areSlots", "(II)Z"⟩
abbrev cX11_procedure : ByteArray := prog_13_method_7_code
def yX11_procedure : MethodName := ⟨RX11, "procedure", "(ZII)I"⟩
abbrev cX11_isSlot : ByteArray := prog_13_method_8_code
def yX11_isSlot : MethodName := ⟨RX11, "isSlot", "(II)Z"⟩
abbrev cX11_isTo : ByteArray := prog_13_method_9_code
def yX11_isTo : MethodName := ⟨RX11, "isTo", "(I)Z"⟩
abbrev cX11_isRight : ByteArray := prog_13_method_10_code
def yX11_isRight : MethodName := ⟨RX11, "isRight", "(IIIIIII)Z"⟩
abbrev cX11_add : ByteArray := prog_13_method_11_code
def yX11_add : MethodName := ⟨RX11, "add", "(IIIIII)I"⟩
abbrev cX11_sizeOf : ByteArray := prog_13_method_12_code
def yX11_sizeOf : MethodName := ⟨RX11, "sizeOf", "(I)I"⟩
abbrev cX11_grow : ByteArray := prog_13_method_13_code
def yX11_grow : MethodName := ⟨RX11, "grow", "(I)V"⟩
abbrev cX11_dropFrom : ByteArray := prog_13_method_14_code
def yX11_dropFrom : MethodName := ⟨RX11, "dropFrom", "(I)V"⟩
abbrev cX11_redos : ByteArray := prog_13_method_15_code
def yX11_redos : MethodName := ⟨RX11, "redos", "()I"⟩
abbrev cX11_redoAt : ByteArray := prog_13_method_16_code
def yX11_redoAt : MethodName := ⟨RX11, "redoAt", "(I)I"⟩
abbrev cX11_lastRedo : ByteArray := prog_13_method_17_code
def yX11_lastRedo : MethodName := ⟨RX11, "lastRedo", "()I"⟩
abbrev cX11_pushFrame : ByteArray := prog_13_method_18_code
def yX11_pushFrame : MethodName := ⟨RX11, "pushFrame", "(III)V"⟩
abbrev cX11_cut : ByteArray := prog_13_method_19_code
def yX11_cut : MethodName := ⟨RX11, "cut", "(I)V"⟩
abbrev cX11_copyFrame : ByteArray := prog_13_method_20_code
def yX11_copyFrame : MethodName := ⟨RX11, "copyFrame", "(II)V"⟩
abbrev cX11_isMoved : ByteArray := prog_13_method_21_code
def yX11_isMoved : MethodName := ⟨RX11, "isMoved", "(II)Z"⟩
abbrev cX11_dropAbove : ByteArray := prog_13_method_22_code
def yX11_dropAbove : MethodName := ⟨RX11, "dropAbove", "()V"⟩
abbrev cX11_isCell : ByteArray := prog_13_method_23_code
def yX11_isCell : MethodName := ⟨RX11, "isCell", "(J)Z"⟩
abbrev cX11_get : ByteArray := prog_13_method_24_code
def yX11_get : MethodName := ⟨RX11, "get", "(I)J"⟩
abbrev cX11_write : ByteArray := prog_13_method_25_code
def yX11_write : MethodName := ⟨RX11, "write", "(IIJ)V"⟩
abbrev cX11_set : ByteArray := prog_13_method_26_code
def yX11_set : MethodName := ⟨RX11, "set", "(IJ)V"⟩
abbrev cX11_has : ByteArray := prog_13_method_27_code
def yX11_has : MethodName := ⟨RX11, "has", "(JII)Z"⟩
abbrev cX11_compare : ByteArray := prog_13_method_28_code
def yX11_compare : MethodName := ⟨RX11, "compare", "(JJ)I"⟩
abbrev cX11_makeCell : ByteArray := prog_13_method_29_code
def yX11_makeCell : MethodName := ⟨RX11, "makeCell", "(I)V"⟩
abbrev cX11_takeCell : ByteArray := prog_13_method_30_code
def yX11_takeCell : MethodName := ⟨RX11, "takeCell", "(I)V"⟩
abbrev cX11_fail : ByteArray := prog_13_method_31_code
def yX11_fail : MethodName := ⟨RX11, "fail", "()V"⟩
abbrev cX11_tryLater : ByteArray := prog_13_method_32_code
def yX11_tryLater : MethodName := ⟨RX11, "tryLater", "(I)V"⟩
abbrev cX11_call : ByteArray := prog_13_method_33_code
def yX11_call : MethodName := ⟨RX11, "call", "(I)V"⟩
abbrev cX11_exit : ByteArray := prog_13_method_34_code
def yX11_exit : MethodName := ⟨RX11, "exit", "()V"⟩
abbrev cX11_holds : ByteArray := prog_13_method_35_code
def yX11_holds : MethodName := ⟨RX11, "holds", "(III)Z"⟩
abbrev cX11_summed : ByteArray := prog_13_method_36_code
def yX11_summed : MethodName := ⟨RX11, "summed", "(I)V"⟩
abbrev cX11_compared : ByteArray := prog_13_method_37_code
def yX11_compared : MethodName := ⟨RX11, "compared", "(I)V"⟩
abbrev cX11_same : ByteArray := prog_13_method_38_code
def yX11_same : MethodName := ⟨RX11, "same", "(I)V"⟩
abbrev cX11_cutOrDrop : ByteArray := prog_13_method_39_code
def yX11_cutOrDrop : MethodName := ⟨RX11, "cutOrDrop", "(I)V"⟩
abbrev cX11_step : ByteArray := prog_13_method_40_code
def yX11_step : MethodName := ⟨RX11, "step", "()V"⟩
abbrev cX11_begin : ByteArray := prog_13_method_41_code
def yX11_begin : MethodName := ⟨RX11, "begin", "(III)Z"⟩
abbrev cX11_run : ByteArray := prog_13_method_42_code
def yX11_run : MethodName := ⟨RX11, "run", "(I)I"⟩
abbrev cX11_told : ByteArray := prog_13_method_43_code
def yX11_told : MethodName := ⟨RX11, "told", "(I)I"⟩
abbrev cX11_say : ByteArray := prog_13_method_44_code
def yX11_say : MethodName := ⟨RX11, "say", "(I)V"⟩
abbrev cX11_sayNumber : ByteArray := prog_13_method_45_code
def yX11_sayNumber : MethodName := ⟨RX11, "sayNumber", "(J)V"⟩
abbrev cX11_tell : ByteArray := prog_13_method_46_code
def yX11_tell : MethodName := ⟨RX11, "tell", "(I)I"⟩
abbrev cX11_sayCell : ByteArray := prog_13_method_47_code
def yX11_sayCell : MethodName := ⟨RX11, "sayCell", "(II)I"⟩
abbrev cX11_letter : ByteArray := prog_13_method_48_code
def yX11_letter : MethodName := ⟨RX11, "letter", "(I)I"⟩
abbrev cX11_slot : ByteArray := prog_13_method_49_code
def yX11_slot : MethodName := ⟨RX11, "slot", "(I)J"⟩
def RJx145de : String := "java/io/Serializable"
def TJx145de : u_T := fun k => match k with
  | _ => ("", "", "", false)
def tyJx145de : Nat → FieldType := fun k => match k with
  | _ => .int
theorem nmJx145de : ∀ a, a < 0 → ∀ b, b < 0 → a ≠ b → (TJx145de a).2.1 ≠ (TJx145de b).2.1 := by decide +kernel
theorem tyJx145de_ok : ∀ k, k < 0 → parseFieldDescriptor (TJx145de k).2.2.1 = some (tyJx145de k) := by decide +kernel
def RJx8e188 : String := "java/lang/Cloneable"
def TJx8e188 : u_T := fun k => match k with
  | _ => ("", "", "", false)
def tyJx8e188 : Nat → FieldType := fun k => match k with
  | _ => .int
theorem nmJx8e188 : ∀ a, a < 0 → ∀ b, b < 0 → a ≠ b → (TJx8e188 a).2.1 ≠ (TJx8e188 b).2.1 := by decide +kernel
theorem tyJx8e188_ok : ∀ k, k < 0 → parseFieldDescriptor (TJx8e188 k).2.2.1 = some (tyJx8e188 k) := by decide +kernel
def RJxab1ab : String := "java/lang/Iterable"
def TJxab1ab : u_T := fun k => match k with
  | _ => ("", "", "", false)
def tyJxab1ab : Nat → FieldType := fun k => match k with
  | _ => .int
theorem nmJxab1ab : ∀ a, a < 0 → ∀ b, b < 0 → a ≠ b → (TJxab1ab a).2.1 ≠ (TJxab1ab b).2.1 := by decide +kernel
theorem tyJxab1ab_ok : ∀ k, k < 0 → parseFieldDescriptor (TJxab1ab k).2.2.1 = some (tyJxab1ab k) := by decide +kernel
def RJ9 : String := "java/lang/Math"
def TJ9 : u_T := fun k => match k with
  | _ => ("", "", "", false)
def tyJ9 : Nat → FieldType := fun k => match k with
  | _ => .int
theorem nmJ9 : ∀ a, a < 0 → ∀ b, b < 0 → a ≠ b → (TJ9 a).2.1 ≠ (TJ9 b).2.1 := by decide +kernel
theorem tyJ9_ok : ∀ k, k < 0 → parseFieldDescriptor (TJ9 k).2.2.1 = some (tyJ9 k) := by decide +kernel
abbrev cJ9_abs_067f4 : ByteArray := prog_18_method_61_code
def yJ9_abs_067f4 : MethodName := ⟨RJ9, "abs", "(J)J"⟩
abbrev cJ9_max_7cf53 : ByteArray := prog_18_method_65_code
def yJ9_max_7cf53 : MethodName := ⟨RJ9, "max", "(II)I"⟩
abbrev cJ9_min_7cf53 : ByteArray := prog_18_method_69_code
def yJ9_min_7cf53 : MethodName := ⟨RJ9, "min", "(II)I"⟩
def RJ0 : String := "java/lang/String"
def TJ0 : u_T := fun k => match k with
  | _ => ("", "", "", false)
def tyJ0 : Nat → FieldType := fun k => match k with
  | _ => .int
theorem nmJ0 : ∀ a, a < 0 → ∀ b, b < 0 → a ≠ b → (TJ0 a).2.1 ≠ (TJ0 b).2.1 := by decide +kernel
theorem tyJ0_ok : ∀ k, k < 0 → parseFieldDescriptor (TJ0 k).2.2.1 = some (tyJ0 k) := by decide +kernel
def RJ10 : String := "java/lang/System"
def TJ10 : u_T := fun k => match k with
  | _ => ("", "", "", false)
def tyJ10 : Nat → FieldType := fun k => match k with
  | _ => .int
theorem nmJ10 : ∀ a, a < 0 → ∀ b, b < 0 → a ≠ b → (TJ10 a).2.1 ≠ (TJ10 b).2.1 := by decide +kernel
theorem tyJ10_ok : ∀ k, k < 0 → parseFieldDescriptor (TJ10 k).2.2.1 = some (tyJ10 k) := by decide +kernel
def RJxa1e45 : String := "java/util/AbstractCollection"
def TJxa1e45 : u_T := fun k => match k with
  | _ => ("", "", "", false)
def tyJxa1e45 : Nat → FieldType := fun k => match k with
  | _ => .int
theorem nmJxa1e45 : ∀ a, a < 0 → ∀ b, b < 0 → a ≠ b → (TJxa1e45 a).2.1 ≠ (TJxa1e45 b).2.1 := by decide +kernel
theorem tyJxa1e45_ok : ∀ k, k < 0 → parseFieldDescriptor (TJxa1e45 k).2.2.1 = some (tyJxa1e45 k) := by decide +kernel
abbrev cJxa1e45_init_da8c8 : ByteArray := prog_23_method_1_code
def yJxa1e45_init_da8c8 : MethodName := ⟨RJxa1e45, "<init>", "()V"⟩
def RJxc12de : String := "java/util/AbstractList"
def TJxc12de : u_T := fun k => match k with
  | _ => ("", "", "", false)
def tyJxc12de : Nat → FieldType := fun k => match k with
  | _ => .int
theorem nmJxc12de : ∀ a, a < 0 → ∀ b, b < 0 → a ≠ b → (TJxc12de a).2.1 ≠ (TJxc12de b).2.1 := by decide +kernel
theorem tyJxc12de_ok : ∀ k, k < 0 → parseFieldDescriptor (TJxc12de k).2.2.1 = some (tyJxc12de k) := by decide +kernel
abbrev cJxc12de_init_da8c8 : ByteArray := prog_24_method_1_code
def yJxc12de_init_da8c8 : MethodName := ⟨RJxc12de, "<init>", "()V"⟩
def RJx4a65c : String := "java/util/ArrayList"
def TJx4a65c : u_T := fun k => match k with
  | 0 => ("java/util/AbstractList", "modCount", "I", false)
  | 1 => ("java/util/ArrayList", "elementData", "[Ljava/lang/Object;", false)
  | _ => ("java/util/ArrayList", "size", "I", false)
def tyJx4a65c : Nat → FieldType := fun k => match k with
  | 0 => .int
  | 1 => .array (.object "java/lang/Object")
  | _ => .int
theorem nmJx4a65c : ∀ a, a < 3 → ∀ b, b < 3 → a ≠ b → (TJx4a65c a).2.1 ≠ (TJx4a65c b).2.1 := by decide +kernel
theorem tyJx4a65c_ok : ∀ k, k < 3 → parseFieldDescriptor (TJx4a65c k).2.2.1 = some (tyJx4a65c k) := by decide +kernel
abbrev cJx4a65c_init_da8c8 : ByteArray := prog_25_method_2_code
def yJx4a65c_init_da8c8 : MethodName := ⟨RJx4a65c, "<init>", "()V"⟩
abbrev cJx4a65c_grow_92f84 : ByteArray := prog_25_method_6_code
def yJx4a65c_grow_92f84 : MethodName := ⟨RJx4a65c, "grow", "(I)[Ljava/lang/Object;"⟩
abbrev cJx4a65c_grow_d5877 : ByteArray := prog_25_method_7_code
def yJx4a65c_grow_d5877 : MethodName := ⟨RJx4a65c, "grow", "()[Ljava/lang/Object;"⟩
abbrev cJx4a65c_size_8abf5 : ByteArray := prog_25_method_8_code
def yJx4a65c_size_8abf5 : MethodName := ⟨RJx4a65c, "size", "()I"⟩
abbrev cJx4a65c_elementData_915e3 : ByteArray := prog_25_method_18_code
def yJx4a65c_elementData_915e3 : MethodName := ⟨RJx4a65c, "elementData", "(I)Ljava/lang/Object;"⟩
abbrev cJx4a65c_get_915e3 : ByteArray := prog_25_method_20_code
def yJx4a65c_get_915e3 : MethodName := ⟨RJx4a65c, "get", "(I)Ljava/lang/Object;"⟩
abbrev cJx4a65c_add_72be8 : ByteArray := prog_25_method_24_code
def yJx4a65c_add_72be8 : MethodName := ⟨RJx4a65c, "add", "(Ljava/lang/Object;[Ljava/lang/Object;I)V"⟩
abbrev cJx4a65c_add_9ea2d : ByteArray := prog_25_method_25_code
def yJx4a65c_add_9ea2d : MethodName := ⟨RJx4a65c, "add", "(Ljava/lang/Object;)Z"⟩
def RJ7 : String := "java/util/Arrays"
def TJ7 : u_T := fun k => match k with
  | _ => ("", "", "", false)
def tyJ7 : Nat → FieldType := fun k => match k with
  | _ => .int
theorem nmJ7 : ∀ a, a < 0 → ∀ b, b < 0 → a ≠ b → (TJ7 a).2.1 ≠ (TJ7 b).2.1 := by decide +kernel
theorem tyJ7_ok : ∀ k, k < 0 → parseFieldDescriptor (TJ7 k).2.2.1 = some (tyJ7 k) := by decide +kernel
abbrev cJ7_copyOf_1904c : ByteArray := prog_26_method_119_code
def yJ7_copyOf_1904c : MethodName := ⟨RJ7, "copyOf", "([Ljava/lang/Object;I)[Ljava/lang/Object;"⟩
abbrev cJ7_copyOf_6403c : ByteArray := prog_26_method_120_code
def yJ7_copyOf_6403c : MethodName := ⟨RJ7, "copyOf", "([Ljava/lang/Object;ILjava/lang/Class;)[Ljava/lang/Object;"⟩
abbrev cJ7_copyOf_59c91 : ByteArray := prog_26_method_123_code
def yJ7_copyOf_59c91 : MethodName := ⟨RJ7, "copyOf", "([II)[I"⟩
abbrev cJ7_copyOf_c38d5 : ByteArray := prog_26_method_124_code
def yJ7_copyOf_c38d5 : MethodName := ⟨RJ7, "copyOf", "([JI)[J"⟩
def RJx5ef63 : String := "java/util/Collection"
def TJx5ef63 : u_T := fun k => match k with
  | _ => ("", "", "", false)
def tyJx5ef63 : Nat → FieldType := fun k => match k with
  | _ => .int
theorem nmJx5ef63 : ∀ a, a < 0 → ∀ b, b < 0 → a ≠ b → (TJx5ef63 a).2.1 ≠ (TJx5ef63 b).2.1 := by decide +kernel
theorem tyJx5ef63_ok : ∀ k, k < 0 → parseFieldDescriptor (TJx5ef63 k).2.2.1 = some (tyJx5ef63 k) := by decide +kernel
def RJxbd725 : String := "java/util/List"
def TJxbd725 : u_T := fun k => match k with
  | _ => ("", "", "", false)
def tyJxbd725 : Nat → FieldType := fun k => match k with
  | _ => .int
theorem nmJxbd725 : ∀ a, a < 0 → ∀ b, b < 0 → a ≠ b → (TJxbd725 a).2.1 ≠ (TJxbd725 b).2.1 := by decide +kernel
theorem tyJxbd725_ok : ∀ k, k < 0 → parseFieldDescriptor (TJxbd725 k).2.2.1 = some (tyJxbd725 k) := by decide +kernel
def RJ15 : String := "java/util/Objects"
def TJ15 : u_T := fun k => match k with
  | _ => ("", "", "", false)
def tyJ15 : Nat → FieldType := fun k => match k with
  | _ => .int
theorem nmJ15 : ∀ a, a < 0 → ∀ b, b < 0 → a ≠ b → (TJ15 a).2.1 ≠ (TJ15 b).2.1 := by decide +kernel
theorem tyJ15_ok : ∀ k, k < 0 → parseFieldDescriptor (TJ15 k).2.2.1 = some (tyJ15 k) := by decide +kernel
abbrev cJ15_checkIndex_7cf53 : ByteArray := prog_30_method_17_code
def yJ15_checkIndex_7cf53 : MethodName := ⟨RJ15, "checkIndex", "(II)I"⟩
def RJxf0a74 : String := "java/util/RandomAccess"
def TJxf0a74 : u_T := fun k => match k with
  | _ => ("", "", "", false)
def tyJxf0a74 : Nat → FieldType := fun k => match k with
  | _ => .int
theorem nmJxf0a74 : ∀ a, a < 0 → ∀ b, b < 0 → a ≠ b → (TJxf0a74 a).2.1 ≠ (TJxf0a74 b).2.1 := by decide +kernel
theorem tyJxf0a74_ok : ∀ k, k < 0 → parseFieldDescriptor (TJxf0a74 k).2.2.1 = some (tyJxf0a74 k) := by decide +kernel
def RJxa66e6 : String := "java/util/SequencedCollection"
def TJxa66e6 : u_T := fun k => match k with
  | _ => ("", "", "", false)
def tyJxa66e6 : Nat → FieldType := fun k => match k with
  | _ => .int
theorem nmJxa66e6 : ∀ a, a < 0 → ∀ b, b < 0 → a ≠ b → (TJxa66e6 a).2.1 ≠ (TJxa66e6 b).2.1 := by decide +kernel
theorem tyJxa66e6_ok : ∀ k, k < 0 → parseFieldDescriptor (TJxa66e6 k).2.2.1 = some (tyJxa66e6 k) := by decide +kernel
def RJ8 : String := "jdk/internal/util/ArraysSupport"
def TJ8 : u_T := fun k => match k with
  | _ => ("", "", "", false)
def tyJ8 : Nat → FieldType := fun k => match k with
  | _ => .int
theorem nmJ8 : ∀ a, a < 0 → ∀ b, b < 0 → a ≠ b → (TJ8 a).2.1 ≠ (TJ8 b).2.1 := by decide +kernel
theorem tyJ8_ok : ∀ k, k < 0 → parseFieldDescriptor (TJ8 k).2.2.1 = some (tyJ8 k) := by decide +kernel
abbrev cJ8_newLength_cabcc : ByteArray := prog_33_method_27_code
def yJ8_newLength_cabcc : MethodName := ⟨RJ8, "newLength", "(III)I"⟩
abbrev cJ8_hugeLength_7cf53 : ByteArray := prog_33_method_28_code
def yJ8_hugeLength_7cf53 : MethodName := ⟨RJ8, "hugeLength", "(II)I"⟩
def RJ3 : String := "jdk/internal/util/Preconditions"
def TJ3 : u_T := fun k => match k with
  | _ => ("", "", "", false)
def tyJ3 : Nat → FieldType := fun k => match k with
  | _ => .int
theorem nmJ3 : ∀ a, a < 0 → ∀ b, b < 0 → a ≠ b → (TJ3 a).2.1 ≠ (TJ3 b).2.1 := by decide +kernel
theorem tyJ3_ok : ∀ k, k < 0 → parseFieldDescriptor (TJ3 k).2.2.1 = some (tyJ3 k) := by decide +kernel
abbrev cJ3_checkIndex_8e157 : ByteArray := prog_34_method_11_code
def yJ3_checkIndex_8e157 : MethodName := ⟨RJ3, "checkIndex", "(IILjava/util/function/BiFunction;)I"⟩
def RL : String := "RedoMachineLaw"
abbrev cL_tell : ByteArray := method_3_code
def yL_tell : MethodName := ⟨RL, "tell", "(LRedoMachine;I[J)I"⟩
abbrev cL_law : ByteArray := code
def yL_law : MethodName := ⟨RL, "law", "([I)Z"⟩
abbrev vwCl : List vw_C := [(RJx4a65c, TJx4a65c, 3), (RJx4a65c, TJx4a65c, 3), (RX0, TX0, 7), (RX1, TX1, 7), (RX2, TX2, 4), (RX3, TX3, 7), (RX4, TX4, 2), (RX5, TX5, 5), (RX6, TX6, 7), (RX7, TX7, 8), (RX8, TX8, 4), (RX10, TX10, 6), (RX11, TX11, 59)]
