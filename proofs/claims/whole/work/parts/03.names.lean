/-! ===== BEGIN printed: names, fields, word lists, decode rows ===== -/
def RX0 : String := "BlockJournal"
def TX0 : u_T := fun k => match k with
  | 0 => ("BlockJournal", "store", "[I", true)
  | 1 => ("BlockJournal", "checkSteps", "[I", true)
  | 2 => ("BlockJournal", "newHead", "[I", true)
  | 3 => ("BlockJournal", "tape", "[I", true)
  | 4 => ("BlockJournal", "tapeLength", "I", false)
  | 5 => ("BlockJournal", "changeBlocks", "[I", true)
  | 6 => ("BlockJournal", "changeBytes", "[I", true)
  | 7 => ("BlockJournal", "changes", "I", false)
  | 8 => ("BlockJournal", "off", "Z", false)
  | 9 => ("BlockJournal", "writesLeft", "I", false)
  | _ => ("BlockJournal", "writesDone", "J", false)
def tyX0 : Nat → FieldType := fun k => match k with
  | 0 => .array .int
  | 1 => .array .int
  | 2 => .array .int
  | 3 => .array .int
  | 4 => .int
  | 5 => .array .int
  | 6 => .array .int
  | 7 => .int
  | 8 => .boolean
  | 9 => .int
  | _ => .long
abbrev wsX00 : List Cond := u_ws RX0 TX0 11
theorem nmX0 : ∀ a, a < 11 → ∀ b, b < 11 → a ≠ b → (TX0 a).2.1 ≠ (TX0 b).2.1 := by decide +kernel
theorem tyX0_ok : ∀ k, k < 11 → parseFieldDescriptor (TX0 k).2.2.1 = some (tyX0 k) := by decide +kernel
abbrev cX0_init : ByteArray := prog_1_method_1_code
def yX0_init : MethodName := ⟨RX0, "<init>", "()V"⟩
abbrev cX0_feed : ByteArray := prog_1_method_2_code
def yX0_feed : MethodName := ⟨RX0, "feed", "(IJ)I"⟩
abbrev cX0_put : ByteArray := prog_1_method_3_code
def yX0_put : MethodName := ⟨RX0, "put", "(I)I"⟩
abbrev cX0_drop : ByteArray := prog_1_method_4_code
def yX0_drop : MethodName := ⟨RX0, "drop", "()I"⟩
abbrev cX0_commit : ByteArray := prog_1_method_5_code
def yX0_commit : MethodName := ⟨RX0, "commit", "()Z"⟩
abbrev cX0_recover : ByteArray := prog_1_method_6_code
def yX0_recover : MethodName := ⟨RX0, "recover", "()I"⟩
abbrev cX0_lose : ByteArray := prog_1_method_7_code
def yX0_lose : MethodName := ⟨RX0, "lose", "(I)V"⟩
abbrev cX0_power : ByteArray := prog_1_method_8_code
def yX0_power : MethodName := ⟨RX0, "power", "()Z"⟩
abbrev cX0_spoil : ByteArray := prog_1_method_9_code
def yX0_spoil : MethodName := ⟨RX0, "spoil", "(III)I"⟩
abbrev cX0_at : ByteArray := prog_1_method_10_code
def yX0_at : MethodName := ⟨RX0, "at", "(II)I"⟩
abbrev cX0_change : ByteArray := prog_1_method_11_code
def yX0_change : MethodName := ⟨RX0, "change", "(I)I"⟩
abbrev cX0_look : ByteArray := prog_1_method_12_code
def yX0_look : MethodName := ⟨RX0, "look", "(I)J"⟩
abbrev cX0_isTarget : ByteArray := prog_1_method_13_code
def yX0_isTarget : MethodName := ⟨RX0, "isTarget", "(I)Z"⟩
abbrev cX0_isInStore : ByteArray := prog_1_method_14_code
def yX0_isInStore : MethodName := ⟨RX0, "isInStore", "(II)Z"⟩
abbrev cX0_placeOf : ByteArray := prog_1_method_15_code
def yX0_placeOf : MethodName := ⟨RX0, "placeOf", "(I)I"⟩
abbrev cX0_isChangeOf : ByteArray := prog_1_method_16_code
def yX0_isChangeOf : MethodName := ⟨RX0, "isChangeOf", "(II)Z"⟩
abbrev cX0_openPlace : ByteArray := prog_1_method_17_code
def yX0_openPlace : MethodName := ⟨RX0, "openPlace", "(II)V"⟩
abbrev cX0_write : ByteArray := prog_1_method_18_code
def yX0_write : MethodName := ⟨RX0, "write", "(I[II)V"⟩
abbrev cX0_writeFullHead : ByteArray := prog_1_method_19_code
def yX0_writeFullHead : MethodName := ⟨RX0, "writeFullHead", "(I)V"⟩
abbrev cX0_writeEmptyHead : ByteArray := prog_1_method_20_code
def yX0_writeEmptyHead : MethodName := ⟨RX0, "writeEmptyHead", "(I)V"⟩
abbrev cX0_setWord : ByteArray := prog_1_method_21_code
def yX0_setWord : MethodName := ⟨RX0, "setWord", "(II)V"⟩
abbrev cX0_headWord : ByteArray := prog_1_method_22_code
def yX0_headWord : MethodName := ⟨RX0, "headWord", "(I)I"⟩
abbrev cX0_headCount : ByteArray := prog_1_method_23_code
def yX0_headCount : MethodName := ⟨RX0, "headCount", "()I"⟩
abbrev cX0_headTarget : ByteArray := prog_1_method_24_code
def yX0_headTarget : MethodName := ⟨RX0, "headTarget", "(I)I"⟩
abbrev cX0_headIsRight : ByteArray := prog_1_method_25_code
def yX0_headIsRight : MethodName := ⟨RX0, "headIsRight", "()Z"⟩
abbrev cX0_targetsAreRight : ByteArray := prog_1_method_26_code
def yX0_targetsAreRight : MethodName := ⟨RX0, "targetsAreRight", "(I)Z"⟩
abbrev cX0_payloadCheck : ByteArray := prog_1_method_27_code
def yX0_payloadCheck : MethodName := ⟨RX0, "payloadCheck", "(I)I"⟩
abbrev cX0_eightSteps : ByteArray := prog_1_method_28_code
def yX0_eightSteps : MethodName := ⟨RX0, "eightSteps", "(I)I"⟩
def RX1 : String := "BlockJournalModel"
def TX1 : u_T := fun k => match k with
  | 0 => ("BlockJournalModel", "thrown", "I", false)
  | 1 => ("BlockJournalModel", "store", "[I", true)
  | 2 => ("BlockJournalModel", "tape", "[I", true)
  | 3 => ("BlockJournalModel", "taped", "I", false)
  | 4 => ("BlockJournalModel", "change", "[I", true)
  | 5 => ("BlockJournalModel", "fresh", "[I", true)
  | 6 => ("BlockJournalModel", "changes", "I", false)
  | 7 => ("BlockJournalModel", "done", "J", false)
  | 8 => ("BlockJournalModel", "left", "J", false)
  | 9 => ("BlockJournalModel", "off", "Z", false)
  | _ => ("BlockJournalModel", "row", "[I", true)
def tyX1 : Nat → FieldType := fun k => match k with
  | 0 => .int
  | 1 => .array .int
  | 2 => .array .int
  | 3 => .int
  | 4 => .array .int
  | 5 => .array .int
  | 6 => .int
  | 7 => .long
  | 8 => .long
  | 9 => .boolean
  | _ => .array .int
abbrev wsX10 : List Cond := u_ws RX1 TX1 11
theorem nmX1 : ∀ a, a < 11 → ∀ b, b < 11 → a ≠ b → (TX1 a).2.1 ≠ (TX1 b).2.1 := by decide +kernel
theorem tyX1_ok : ∀ k, k < 11 → parseFieldDescriptor (TX1 k).2.2.1 = some (tyX1 k) := by decide +kernel
abbrev cX1_init : ByteArray := prog_3_method_1_code
def yX1_init : MethodName := ⟨RX1, "<init>", "()V"⟩
abbrev cX1_thrown : ByteArray := prog_3_method_2_code
def yX1_thrown : MethodName := ⟨RX1, "thrown", "()I"⟩
abbrev cX1_fails : ByteArray := prog_3_method_3_code
def yX1_fails : MethodName := ⟨RX1, "fails", "(ZI)Z"⟩
abbrev cX1_within : ByteArray := prog_3_method_4_code
def yX1_within : MethodName := ⟨RX1, "within", "(JJJ)Z"⟩
abbrev cX1_writes : ByteArray := prog_3_method_5_code
def yX1_writes : MethodName := ⟨RX1, "writes", "(I)Z"⟩
abbrev cX1_number : ByteArray := prog_3_method_6_code
def yX1_number : MethodName := ⟨RX1, "number", "(II)J"⟩
abbrev cX1_check : ByteArray := prog_3_method_7_code
def yX1_check : MethodName := ⟨RX1, "check", "(I)J"⟩
abbrev cX1_target : ByteArray := prog_3_method_8_code
def yX1_target : MethodName := ⟨RX1, "target", "(I)I"⟩
abbrev cX1_isRight : ByteArray := prog_3_method_9_code
def yX1_isRight : MethodName := ⟨RX1, "isRight", "()Z"⟩
abbrev cX1_feed : ByteArray := prog_3_method_10_code
def yX1_feed : MethodName := ⟨RX1, "feed", "(IJ)I"⟩
abbrev cX1_find : ByteArray := prog_3_method_11_code
def yX1_find : MethodName := ⟨RX1, "find", "(I)I"⟩
abbrev cX1_put : ByteArray := prog_3_method_12_code
def yX1_put : MethodName := ⟨RX1, "put", "(I)I"⟩
abbrev cX1_drop : ByteArray := prog_3_method_13_code
def yX1_drop : MethodName := ⟨RX1, "drop", "()I"⟩
abbrev cX1_ranked : ByteArray := prog_3_method_14_code
def yX1_ranked : MethodName := ⟨RX1, "ranked", "(I)I"⟩
abbrev cX1_headed : ByteArray := prog_3_method_15_code
def yX1_headed : MethodName := ⟨RX1, "headed", "(JI)V"⟩
abbrev cX1_commits : ByteArray := prog_3_method_16_code
def yX1_commits : MethodName := ⟨RX1, "commits", "(IIJ)Z"⟩
abbrev cX1_commit : ByteArray := prog_3_method_17_code
def yX1_commit : MethodName := ⟨RX1, "commit", "()Z"⟩
abbrev cX1_recover : ByteArray := prog_3_method_18_code
def yX1_recover : MethodName := ⟨RX1, "recover", "()I"⟩
abbrev cX1_lose : ByteArray := prog_3_method_19_code
def yX1_lose : MethodName := ⟨RX1, "lose", "(I)V"⟩
abbrev cX1_power : ByteArray := prog_3_method_20_code
def yX1_power : MethodName := ⟨RX1, "power", "()Z"⟩
abbrev cX1_spoil : ByteArray := prog_3_method_21_code
def yX1_spoil : MethodName := ⟨RX1, "spoil", "(III)I"⟩
abbrev cX1_at : ByteArray := prog_3_method_22_code
def yX1_at : MethodName := ⟨RX1, "at", "(II)I"⟩
abbrev cX1_change : ByteArray := prog_3_method_23_code
def yX1_change : MethodName := ⟨RX1, "change", "(I)I"⟩
abbrev cX1_look : ByteArray := prog_3_method_24_code
def yX1_look : MethodName := ⟨RX1, "look", "(I)J"⟩
def RJ0 : String := "java/lang/String"
def TJ0 : u_T := fun k => match k with
  | _ => ("", "", "", false)
def tyJ0 : Nat → FieldType := fun k => match k with
  | _ => .int
abbrev wsJ00 : List Cond := u_ws RJ0 TJ0 0
theorem nmJ0 : ∀ a, a < 0 → ∀ b, b < 0 → a ≠ b → (TJ0 a).2.1 ≠ (TJ0 b).2.1 := by decide +kernel
theorem tyJ0_ok : ∀ k, k < 0 → parseFieldDescriptor (TJ0 k).2.2.1 = some (tyJ0 k) := by decide +kernel
def RJ10 : String := "java/lang/System"
def TJ10 : u_T := fun k => match k with
  | _ => ("", "", "", false)
def tyJ10 : Nat → FieldType := fun k => match k with
  | _ => .int
abbrev wsJ100 : List Cond := u_ws RJ10 TJ10 0
theorem nmJ10 : ∀ a, a < 0 → ∀ b, b < 0 → a ≠ b → (TJ10 a).2.1 ≠ (TJ10 b).2.1 := by decide +kernel
theorem tyJ10_ok : ∀ k, k < 0 → parseFieldDescriptor (TJ10 k).2.2.1 = some (tyJ10 k) := by decide +kernel
def RJ7 : String := "java/util/Arrays"
def TJ7 : u_T := fun k => match k with
  | _ => ("", "", "", false)
def tyJ7 : Nat → FieldType := fun k => match k with
  | _ => .int
abbrev wsJ70 : List Cond := u_ws RJ7 TJ7 0
theorem nmJ7 : ∀ a, a < 0 → ∀ b, b < 0 → a ≠ b → (TJ7 a).2.1 ≠ (TJ7 b).2.1 := by decide +kernel
theorem tyJ7_ok : ∀ k, k < 0 → parseFieldDescriptor (TJ7 k).2.2.1 = some (tyJ7 k) := by decide +kernel
abbrev cJ7_fill_53178 : ByteArray := prog_11_method_103_code
def yJ7_fill_53178 : MethodName := ⟨RJ7, "fill", "([II)V"⟩
def RL : String := "BlockJournalLaw"
abbrev cL_feed : ByteArray := method_3_code
def yL_feed : MethodName := ⟨RL, "feed", "(LBlockJournal;IJ[J)I"⟩
abbrev cL_put : ByteArray := method_4_code
def yL_put : MethodName := ⟨RL, "put", "(LBlockJournal;I[J)I"⟩
abbrev cL_commit : ByteArray := method_5_code
def yL_commit : MethodName := ⟨RL, "commit", "(LBlockJournal;[J)I"⟩
abbrev cL_recover : ByteArray := method_6_code
def yL_recover : MethodName := ⟨RL, "recover", "(LBlockJournal;[J)I"⟩
abbrev cL_lose : ByteArray := method_7_code
def yL_lose : MethodName := ⟨RL, "lose", "(LBlockJournal;I)I"⟩
abbrev cL_spoil : ByteArray := method_8_code
def yL_spoil : MethodName := ⟨RL, "spoil", "(LBlockJournal;III[J)I"⟩
abbrev cL_at : ByteArray := method_9_code
def yL_at : MethodName := ⟨RL, "at", "(LBlockJournal;II[J)I"⟩
abbrev cL_change : ByteArray := method_10_code
def yL_change : MethodName := ⟨RL, "change", "(LBlockJournal;I[J)I"⟩
abbrev cL_look : ByteArray := method_11_code
def yL_look : MethodName := ⟨RL, "look", "(LBlockJournal;I[J)I"⟩
abbrev cL_law : ByteArray := code
def yL_law : MethodName := ⟨RL, "law", "([I)Z"⟩
def wsX0_eightSteps : List Cond := .code yX0_eightSteps cX0_eightSteps 3 (some .int) :: ([.constant RX0 147 (-2097792136)])
def wsX0_init : List Cond := .code yX0_init cX0_init 2 none :: ([.methodLink RX0 1 objectInit, .instanceMethod objectInit, .code objectInit ⟨#[0xb1]⟩ 1 none, .arrayClass .int, .fieldLink RX0 9 "BlockJournal" "store" "[I", .fieldLink RX0 13 "BlockJournal" "checkSteps" "[I", .fieldLink RX0 16 "BlockJournal" "newHead" "[I", .fieldLink RX0 19 "BlockJournal" "tape" "[I", .fieldLink RX0 22 "BlockJournal" "changeBlocks" "[I", .fieldLink RX0 25 "BlockJournal" "changeBytes" "[I", .fieldLink RX0 28 "BlockJournal" "writesLeft" "I", .methodLink RX0 32 yX0_eightSteps, .static yX0_eightSteps, .initialized RX0, .code yX0_eightSteps cX0_eightSteps 3 (some .int), .constant RX0 147 (-2097792136)] ++ wsX00)
def wsX0_feed : List Cond := .code yX0_feed cX0_feed 5 (some .int) :: ([.classLink RX0 36 "java/lang/IllegalArgumentException", .initialized "java/lang/IllegalArgumentException", .classLink RX0 46 "java/lang/IllegalStateException", .initialized "java/lang/IllegalStateException", .fieldLink RX0 43 "BlockJournal" "tapeLength" "I", .fieldLink RX0 19 "BlockJournal" "tape" "[I"] ++ wsX00 ++ (vx_atS RX0 40 "java/lang/IllegalArgumentException" ["java/lang/RuntimeException", "java/lang/Exception"]).filter goodWord ++ (vx_atS RX0 50 "java/lang/IllegalStateException" ["java/lang/RuntimeException", "java/lang/Exception"]).filter goodWord)
def wsX0_isTarget : List Cond := .code yX0_isTarget cX0_isTarget 1 (some .boolean) :: ([])
def wsX0_placeOf : List Cond := .code yX0_placeOf cX0_placeOf 3 (some .int) :: ([.fieldLink RX0 64 "BlockJournal" "changes" "I", .fieldLink RX0 22 "BlockJournal" "changeBlocks" "[I"] ++ wsX00)
def wsX0_isChangeOf : List Cond := .code yX0_isChangeOf cX0_isChangeOf 3 (some .boolean) :: ([.fieldLink RX0 64 "BlockJournal" "changes" "I", .fieldLink RX0 22 "BlockJournal" "changeBlocks" "[I"] ++ wsX00)
def wsX0_openPlace : List Cond := .code yX0_openPlace cX0_openPlace 4 none :: ([.fieldLink RX0 64 "BlockJournal" "changes" "I", .fieldLink RX0 22 "BlockJournal" "changeBlocks" "[I", .methodLink RX0 73 arraycopyName, .native arraycopyName, .static arraycopyName, .initialized "java/lang/System", .fieldLink RX0 25 "BlockJournal" "changeBytes" "[I"] ++ wsX00)
def wsJ7_fill_53178 : List Cond := .code yJ7_fill_53178 cJ7_fill_53178 4 none :: ([])
def wsX0_put_r1 : List Cond := [Cond.classLink RX0 36 "java/lang/IllegalArgumentException", Cond.initialized "java/lang/IllegalArgumentException", Cond.classLink RX0 46 "java/lang/IllegalStateException", Cond.initialized "java/lang/IllegalStateException", Cond.fieldLink RX0 64 "BlockJournal" "changes" "I", Cond.fieldLink RX0 19 "BlockJournal" "tape" "[I", Cond.fieldLink RX0 25 "BlockJournal" "changeBytes" "[I", Cond.methodLink RX0 73 arraycopyName, Cond.native arraycopyName, Cond.static arraycopyName, Cond.initialized "java/lang/System", Cond.fieldLink RX0 43 "BlockJournal" "tapeLength" "I", Cond.methodLink RX0 51 yX0_isTarget, Cond.static yX0_isTarget, Cond.initialized RX0, Cond.code yX0_isTarget cX0_isTarget 1 (some .boolean), Cond.methodLink RX0 57 yX0_placeOf, Cond.instanceMethod yX0_placeOf, Cond.selects RX0 yX0_placeOf yX0_placeOf, Cond.code yX0_placeOf cX0_placeOf 3 (some .int), Cond.fieldLink RX0 22 "BlockJournal" "changeBlocks" "[I", Cond.methodLink RX0 60 yX0_isChangeOf, Cond.instanceMethod yX0_isChangeOf, Cond.selects RX0 yX0_isChangeOf yX0_isChangeOf]
def wsX0_put_r2 : List Cond := [Cond.code yX0_isChangeOf cX0_isChangeOf 3 (some .boolean), Cond.methodLink RX0 69 yX0_openPlace, Cond.instanceMethod yX0_openPlace, Cond.selects RX0 yX0_openPlace yX0_openPlace, Cond.code yX0_openPlace cX0_openPlace 4 none, Cond.methodLink RX0 79 yJ7_fill_53178, Cond.static yJ7_fill_53178, Cond.initialized RJ7, Cond.code yJ7_fill_53178 cJ7_fill_53178 4 none]
def wsX0_put : List Cond := .code yX0_put cX0_put 3 (some .int) :: ((wsX0_put_r1 ++ wsX0_put_r2) ++ wsX00 ++ (vx_atS RX0 40 "java/lang/IllegalArgumentException" ["java/lang/RuntimeException", "java/lang/Exception"]).filter goodWord ++ (vx_atS RX0 50 "java/lang/IllegalStateException" ["java/lang/RuntimeException", "java/lang/Exception"]).filter goodWord)
def wsX0_drop : List Cond := .code yX0_drop cX0_drop 2 (some .int) :: ([.fieldLink RX0 64 "BlockJournal" "changes" "I"] ++ wsX00)
def wsX0_headWord : List Cond := .code yX0_headWord cX0_headWord 4 (some .int) :: ([.fieldLink RX0 9 "BlockJournal" "store" "[I"] ++ wsX00)
def wsX0_write : List Cond := .code yX0_write cX0_write 4 none :: ([.fieldLink RX0 28 "BlockJournal" "writesLeft" "I", .fieldLink RX0 85 "BlockJournal" "off" "Z", .fieldLink RX0 9 "BlockJournal" "store" "[I", .methodLink RX0 73 arraycopyName, .native arraycopyName, .static arraycopyName, .initialized "java/lang/System", .fieldLink RX0 132 "BlockJournal" "writesDone" "J"] ++ wsX00)
def wsX0_setWord : List Cond := .code yX0_setWord cX0_setWord 4 none :: ([.fieldLink RX0 16 "BlockJournal" "newHead" "[I"] ++ wsX00)
def wsX0_payloadCheck : List Cond := .code yX0_payloadCheck cX0_payloadCheck 5 (some .int) :: ([.fieldLink RX0 13 "BlockJournal" "checkSteps" "[I", .fieldLink RX0 9 "BlockJournal" "store" "[I"] ++ wsX00)
def wsX0_writeFullHead_r1 : List Cond := [Cond.fieldLink RX0 16 "BlockJournal" "newHead" "[I", Cond.fieldLink RX0 64 "BlockJournal" "changes" "I", Cond.fieldLink RX0 22 "BlockJournal" "changeBlocks" "[I", Cond.methodLink RX0 79 yJ7_fill_53178, Cond.static yJ7_fill_53178, Cond.initialized RJ7, Cond.code yJ7_fill_53178 cJ7_fill_53178 4 none, Cond.methodLink RX0 138 yX0_setWord, Cond.instanceMethod yX0_setWord, Cond.selects RX0 yX0_setWord yX0_setWord, Cond.initialized RX0, Cond.code yX0_setWord cX0_setWord 4 none, Cond.methodLink RX0 141 yX0_payloadCheck, Cond.instanceMethod yX0_payloadCheck, Cond.selects RX0 yX0_payloadCheck yX0_payloadCheck, Cond.code yX0_payloadCheck cX0_payloadCheck 5 (some .int), Cond.fieldLink RX0 13 "BlockJournal" "checkSteps" "[I", Cond.fieldLink RX0 9 "BlockJournal" "store" "[I", Cond.methodLink RX0 94 yX0_write, Cond.instanceMethod yX0_write, Cond.selects RX0 yX0_write yX0_write, Cond.code yX0_write cX0_write 4 none, Cond.fieldLink RX0 28 "BlockJournal" "writesLeft" "I", Cond.fieldLink RX0 85 "BlockJournal" "off" "Z"]
def wsX0_writeFullHead_r2 : List Cond := [Cond.methodLink RX0 73 arraycopyName, Cond.native arraycopyName, Cond.static arraycopyName, Cond.initialized "java/lang/System", Cond.fieldLink RX0 132 "BlockJournal" "writesDone" "J"]
def wsX0_writeFullHead : List Cond := .code yX0_writeFullHead cX0_writeFullHead 3 none :: ((wsX0_writeFullHead_r1 ++ wsX0_writeFullHead_r2) ++ wsX00)
def wsX0_writeEmptyHead : List Cond := .code yX0_writeEmptyHead cX0_writeEmptyHead 2 none :: ([.fieldLink RX0 16 "BlockJournal" "newHead" "[I", .methodLink RX0 79 yJ7_fill_53178, .static yJ7_fill_53178, .initialized RJ7, .code yJ7_fill_53178 cJ7_fill_53178 4 none, .methodLink RX0 138 yX0_setWord, .instanceMethod yX0_setWord, .selects RX0 yX0_setWord yX0_setWord, .initialized RX0, .code yX0_setWord cX0_setWord 4 none, .methodLink RX0 94 yX0_write, .instanceMethod yX0_write, .selects RX0 yX0_write yX0_write, .code yX0_write cX0_write 4 none, .fieldLink RX0 28 "BlockJournal" "writesLeft" "I", .fieldLink RX0 85 "BlockJournal" "off" "Z", .fieldLink RX0 9 "BlockJournal" "store" "[I", .methodLink RX0 73 arraycopyName, .native arraycopyName, .static arraycopyName, .initialized "java/lang/System", .fieldLink RX0 132 "BlockJournal" "writesDone" "J"] ++ wsX00)
def wsX0_commit_r1 : List Cond := [Cond.classLink RX0 46 "java/lang/IllegalStateException", Cond.initialized "java/lang/IllegalStateException", Cond.fieldLink RX0 64 "BlockJournal" "changes" "I", Cond.fieldLink RX0 85 "BlockJournal" "off" "Z", Cond.fieldLink RX0 25 "BlockJournal" "changeBytes" "[I", Cond.fieldLink RX0 22 "BlockJournal" "changeBlocks" "[I", Cond.methodLink RX0 91 yX0_headWord, Cond.instanceMethod yX0_headWord, Cond.selects RX0 yX0_headWord yX0_headWord, Cond.initialized RX0, Cond.code yX0_headWord cX0_headWord 4 (some .int), Cond.fieldLink RX0 9 "BlockJournal" "store" "[I", Cond.methodLink RX0 94 yX0_write, Cond.instanceMethod yX0_write, Cond.selects RX0 yX0_write yX0_write, Cond.code yX0_write cX0_write 4 none, Cond.fieldLink RX0 28 "BlockJournal" "writesLeft" "I", Cond.methodLink RX0 73 arraycopyName, Cond.native arraycopyName, Cond.static arraycopyName, Cond.initialized "java/lang/System", Cond.fieldLink RX0 132 "BlockJournal" "writesDone" "J", Cond.methodLink RX0 98 yX0_writeFullHead, Cond.instanceMethod yX0_writeFullHead]
def wsX0_commit_r2 : List Cond := [Cond.selects RX0 yX0_writeFullHead yX0_writeFullHead, Cond.code yX0_writeFullHead cX0_writeFullHead 3 none, Cond.fieldLink RX0 16 "BlockJournal" "newHead" "[I", Cond.methodLink RX0 79 yJ7_fill_53178, Cond.static yJ7_fill_53178, Cond.initialized RJ7, Cond.code yJ7_fill_53178 cJ7_fill_53178 4 none, Cond.methodLink RX0 138 yX0_setWord, Cond.instanceMethod yX0_setWord, Cond.selects RX0 yX0_setWord yX0_setWord, Cond.code yX0_setWord cX0_setWord 4 none, Cond.methodLink RX0 141 yX0_payloadCheck, Cond.instanceMethod yX0_payloadCheck, Cond.selects RX0 yX0_payloadCheck yX0_payloadCheck, Cond.code yX0_payloadCheck cX0_payloadCheck 5 (some .int), Cond.fieldLink RX0 13 "BlockJournal" "checkSteps" "[I", Cond.methodLink RX0 102 yX0_writeEmptyHead, Cond.instanceMethod yX0_writeEmptyHead, Cond.selects RX0 yX0_writeEmptyHead yX0_writeEmptyHead, Cond.code yX0_writeEmptyHead cX0_writeEmptyHead 2 none]
def wsX0_commit : List Cond := .code yX0_commit cX0_commit 3 (some .boolean) :: ((wsX0_commit_r1 ++ wsX0_commit_r2) ++ wsX00 ++ (vx_atS RX0 50 "java/lang/IllegalStateException" ["java/lang/RuntimeException", "java/lang/Exception"]).filter goodWord)
def wsX0_headCount : List Cond := .code yX0_headCount cX0_headCount 1 (some .int) :: ([.fieldLink RX0 9 "BlockJournal" "store" "[I"] ++ wsX00)
def wsX0_headTarget : List Cond := .code yX0_headTarget cX0_headTarget 3 (some .int) :: ([.fieldLink RX0 9 "BlockJournal" "store" "[I"] ++ wsX00)
def wsX0_targetsAreRight : List Cond := .code yX0_targetsAreRight cX0_targetsAreRight 5 (some .boolean) :: ([.methodLink RX0 115 yX0_headTarget, .instanceMethod yX0_headTarget, .selects RX0 yX0_headTarget yX0_headTarget, .initialized RX0, .code yX0_headTarget cX0_headTarget 3 (some .int), .fieldLink RX0 9 "BlockJournal" "store" "[I", .methodLink RX0 51 yX0_isTarget, .static yX0_isTarget, .code yX0_isTarget cX0_isTarget 1 (some .boolean)] ++ wsX00)
def wsX0_headIsRight_r1 : List Cond := [Cond.methodLink RX0 111 yX0_headCount, Cond.instanceMethod yX0_headCount, Cond.selects RX0 yX0_headCount yX0_headCount, Cond.initialized RX0, Cond.code yX0_headCount cX0_headCount 1 (some .int), Cond.fieldLink RX0 9 "BlockJournal" "store" "[I", Cond.methodLink RX0 144 yX0_targetsAreRight, Cond.instanceMethod yX0_targetsAreRight, Cond.selects RX0 yX0_targetsAreRight yX0_targetsAreRight, Cond.code yX0_targetsAreRight cX0_targetsAreRight 5 (some .boolean), Cond.methodLink RX0 115 yX0_headTarget, Cond.instanceMethod yX0_headTarget, Cond.selects RX0 yX0_headTarget yX0_headTarget, Cond.code yX0_headTarget cX0_headTarget 3 (some .int), Cond.methodLink RX0 51 yX0_isTarget, Cond.static yX0_isTarget, Cond.code yX0_isTarget cX0_isTarget 1 (some .boolean), Cond.methodLink RX0 91 yX0_headWord, Cond.instanceMethod yX0_headWord, Cond.selects RX0 yX0_headWord yX0_headWord, Cond.code yX0_headWord cX0_headWord 4 (some .int), Cond.methodLink RX0 141 yX0_payloadCheck, Cond.instanceMethod yX0_payloadCheck, Cond.selects RX0 yX0_payloadCheck yX0_payloadCheck]
def wsX0_headIsRight_r2 : List Cond := [Cond.code yX0_payloadCheck cX0_payloadCheck 5 (some .int), Cond.fieldLink RX0 13 "BlockJournal" "checkSteps" "[I"]
def wsX0_headIsRight : List Cond := .code yX0_headIsRight cX0_headIsRight 2 (some .boolean) :: ((wsX0_headIsRight_r1 ++ wsX0_headIsRight_r2) ++ wsX00)
def wsX0_recover_r1 : List Cond := [Cond.classLink RX0 46 "java/lang/IllegalStateException", Cond.initialized "java/lang/IllegalStateException", Cond.fieldLink RX0 85 "BlockJournal" "off" "Z", Cond.fieldLink RX0 9 "BlockJournal" "store" "[I", Cond.methodLink RX0 107 yX0_headIsRight, Cond.instanceMethod yX0_headIsRight, Cond.selects RX0 yX0_headIsRight yX0_headIsRight, Cond.initialized RX0, Cond.code yX0_headIsRight cX0_headIsRight 2 (some .boolean), Cond.methodLink RX0 111 yX0_headCount, Cond.instanceMethod yX0_headCount, Cond.selects RX0 yX0_headCount yX0_headCount, Cond.code yX0_headCount cX0_headCount 1 (some .int), Cond.methodLink RX0 144 yX0_targetsAreRight, Cond.instanceMethod yX0_targetsAreRight, Cond.selects RX0 yX0_targetsAreRight yX0_targetsAreRight, Cond.code yX0_targetsAreRight cX0_targetsAreRight 5 (some .boolean), Cond.methodLink RX0 115 yX0_headTarget, Cond.instanceMethod yX0_headTarget, Cond.selects RX0 yX0_headTarget yX0_headTarget, Cond.code yX0_headTarget cX0_headTarget 3 (some .int), Cond.methodLink RX0 51 yX0_isTarget, Cond.static yX0_isTarget, Cond.code yX0_isTarget cX0_isTarget 1 (some .boolean)]
def wsX0_recover_r2 : List Cond := [Cond.methodLink RX0 91 yX0_headWord, Cond.instanceMethod yX0_headWord, Cond.selects RX0 yX0_headWord yX0_headWord, Cond.code yX0_headWord cX0_headWord 4 (some .int), Cond.methodLink RX0 141 yX0_payloadCheck, Cond.instanceMethod yX0_payloadCheck, Cond.selects RX0 yX0_payloadCheck yX0_payloadCheck, Cond.code yX0_payloadCheck cX0_payloadCheck 5 (some .int), Cond.fieldLink RX0 13 "BlockJournal" "checkSteps" "[I", Cond.methodLink RX0 94 yX0_write, Cond.instanceMethod yX0_write, Cond.selects RX0 yX0_write yX0_write, Cond.code yX0_write cX0_write 4 none, Cond.fieldLink RX0 28 "BlockJournal" "writesLeft" "I", Cond.methodLink RX0 73 arraycopyName, Cond.native arraycopyName, Cond.static arraycopyName, Cond.initialized "java/lang/System", Cond.fieldLink RX0 132 "BlockJournal" "writesDone" "J", Cond.methodLink RX0 102 yX0_writeEmptyHead, Cond.instanceMethod yX0_writeEmptyHead, Cond.selects RX0 yX0_writeEmptyHead yX0_writeEmptyHead, Cond.code yX0_writeEmptyHead cX0_writeEmptyHead 2 none, Cond.fieldLink RX0 16 "BlockJournal" "newHead" "[I"]
def wsX0_recover_r3 : List Cond := [Cond.methodLink RX0 79 yJ7_fill_53178, Cond.static yJ7_fill_53178, Cond.initialized RJ7, Cond.code yJ7_fill_53178 cJ7_fill_53178 4 none, Cond.methodLink RX0 138 yX0_setWord, Cond.instanceMethod yX0_setWord, Cond.selects RX0 yX0_setWord yX0_setWord, Cond.code yX0_setWord cX0_setWord 4 none]
def wsX0_recover : List Cond := .code yX0_recover cX0_recover 3 (some .int) :: ((wsX0_recover_r1 ++ (wsX0_recover_r2 ++ wsX0_recover_r3)) ++ wsX00 ++ (vx_atS RX0 50 "java/lang/IllegalStateException" ["java/lang/RuntimeException", "java/lang/Exception"]).filter goodWord)
def wsX0_lose : List Cond := .code yX0_lose cX0_lose 2 none :: ([.classLink RX0 36 "java/lang/IllegalArgumentException", .initialized "java/lang/IllegalArgumentException", .classLink RX0 46 "java/lang/IllegalStateException", .initialized "java/lang/IllegalStateException", .fieldLink RX0 85 "BlockJournal" "off" "Z", .fieldLink RX0 28 "BlockJournal" "writesLeft" "I"] ++ wsX00 ++ (vx_atS RX0 40 "java/lang/IllegalArgumentException" ["java/lang/RuntimeException", "java/lang/Exception"]).filter goodWord ++ (vx_atS RX0 50 "java/lang/IllegalStateException" ["java/lang/RuntimeException", "java/lang/Exception"]).filter goodWord)
def wsX0_power : List Cond := .code yX0_power cX0_power 2 (some .boolean) :: ([.fieldLink RX0 85 "BlockJournal" "off" "Z", .fieldLink RX0 28 "BlockJournal" "writesLeft" "I"] ++ wsX00)
def wsX0_isInStore : List Cond := .code yX0_isInStore cX0_isInStore 2 (some .boolean) :: ([])
def wsX0_spoil : List Cond := .code yX0_spoil cX0_spoil 5 (some .int) :: ([.classLink RX0 36 "java/lang/IllegalArgumentException", .initialized "java/lang/IllegalArgumentException", .fieldLink RX0 9 "BlockJournal" "store" "[I", .methodLink RX0 120 yX0_isInStore, .static yX0_isInStore, .initialized RX0, .code yX0_isInStore cX0_isInStore 2 (some .boolean)] ++ wsX00 ++ (vx_atS RX0 40 "java/lang/IllegalArgumentException" ["java/lang/RuntimeException", "java/lang/Exception"]).filter goodWord)
def wsX0_at : List Cond := .code yX0_at cX0_at 3 (some .int) :: ([.classLink RX0 36 "java/lang/IllegalArgumentException", .initialized "java/lang/IllegalArgumentException", .fieldLink RX0 9 "BlockJournal" "store" "[I", .methodLink RX0 120 yX0_isInStore, .static yX0_isInStore, .initialized RX0, .code yX0_isInStore cX0_isInStore 2 (some .boolean)] ++ wsX00 ++ (vx_atS RX0 40 "java/lang/IllegalArgumentException" ["java/lang/RuntimeException", "java/lang/Exception"]).filter goodWord)
def wsX0_change : List Cond := .code yX0_change cX0_change 2 (some .int) :: ([.classLink RX0 125 "java/util/NoSuchElementException", .initialized "java/util/NoSuchElementException", .fieldLink RX0 64 "BlockJournal" "changes" "I", .fieldLink RX0 22 "BlockJournal" "changeBlocks" "[I"] ++ wsX00 ++ (bx_atN RX0 129).filter goodWord)
def wsX0_look_r1 : List Cond := [Cond.classLink RX0 125 "java/util/NoSuchElementException", Cond.initialized "java/util/NoSuchElementException", Cond.constantLong RX0 130 (4294967295), Cond.fieldLink RX0 64 "BlockJournal" "changes" "I", Cond.fieldLink RX0 132 "BlockJournal" "writesDone" "J", Cond.fieldLink RX0 85 "BlockJournal" "off" "Z", Cond.fieldLink RX0 28 "BlockJournal" "writesLeft" "I", Cond.methodLink RX0 91 yX0_headWord, Cond.instanceMethod yX0_headWord, Cond.selects RX0 yX0_headWord yX0_headWord, Cond.initialized RX0, Cond.code yX0_headWord cX0_headWord 4 (some .int), Cond.fieldLink RX0 9 "BlockJournal" "store" "[I", Cond.methodLink RX0 111 yX0_headCount, Cond.instanceMethod yX0_headCount, Cond.selects RX0 yX0_headCount yX0_headCount, Cond.code yX0_headCount cX0_headCount 1 (some .int), Cond.methodLink RX0 107 yX0_headIsRight, Cond.instanceMethod yX0_headIsRight, Cond.selects RX0 yX0_headIsRight yX0_headIsRight, Cond.code yX0_headIsRight cX0_headIsRight 2 (some .boolean), Cond.methodLink RX0 144 yX0_targetsAreRight, Cond.instanceMethod yX0_targetsAreRight, Cond.selects RX0 yX0_targetsAreRight yX0_targetsAreRight]
def wsX0_look_r2 : List Cond := [Cond.code yX0_targetsAreRight cX0_targetsAreRight 5 (some .boolean), Cond.methodLink RX0 115 yX0_headTarget, Cond.instanceMethod yX0_headTarget, Cond.selects RX0 yX0_headTarget yX0_headTarget, Cond.code yX0_headTarget cX0_headTarget 3 (some .int), Cond.methodLink RX0 51 yX0_isTarget, Cond.static yX0_isTarget, Cond.code yX0_isTarget cX0_isTarget 1 (some .boolean), Cond.methodLink RX0 141 yX0_payloadCheck, Cond.instanceMethod yX0_payloadCheck, Cond.selects RX0 yX0_payloadCheck yX0_payloadCheck, Cond.code yX0_payloadCheck cX0_payloadCheck 5 (some .int), Cond.fieldLink RX0 13 "BlockJournal" "checkSteps" "[I"]
def wsX0_look : List Cond := .code yX0_look cX0_look 2 (some .long) :: ((wsX0_look_r1 ++ wsX0_look_r2) ++ wsX00 ++ (bx_atN RX0 129).filter goodWord)
def wsX1_init : List Cond := .code yX1_init cX1_init 1 none :: ([.methodLink RX1 1 objectInit, .instanceMethod objectInit, .code objectInit ⟨#[0xb1]⟩ 1 none, .arrayClass .int, .fieldLink RX1 7 "BlockJournalModel" "store" "[I", .fieldLink RX1 13 "BlockJournalModel" "tape" "[I", .fieldLink RX1 16 "BlockJournalModel" "change" "[I", .fieldLink RX1 19 "BlockJournalModel" "fresh" "[I", .constantLong RX1 22 (-1), .fieldLink RX1 24 "BlockJournalModel" "left" "J", .fieldLink RX1 28 "BlockJournalModel" "row" "[I"] ++ wsX10)
def wsX1_thrown : List Cond := .code yX1_thrown cX1_thrown 1 (some .int) :: ([.fieldLink RX1 31 "BlockJournalModel" "thrown" "I"] ++ wsX10)
def wsX1_fails : List Cond := .code yX1_fails cX1_fails 3 (some .boolean) :: ([.fieldLink RX1 31 "BlockJournalModel" "thrown" "I"] ++ wsX10)
def wsX1_within : List Cond := .code yX1_within cX1_within 6 (some .boolean) :: ([])
def wsX1_writes : List Cond := .code yX1_writes cX1_writes 3 (some .boolean) :: ([.fieldLink RX1 35 "BlockJournalModel" "off" "Z", .fieldLink RX1 24 "BlockJournalModel" "left" "J", .fieldLink RX1 39 "BlockJournalModel" "done" "J", .fieldLink RX1 7 "BlockJournalModel" "store" "[I", .fieldLink RX1 28 "BlockJournalModel" "row" "[I"] ++ wsX10)
def wsX1_number : List Cond := .code yX1_number cX1_number 6 (some .long) :: ([.constantLong RX1 42 (256), .fieldLink RX1 7 "BlockJournalModel" "store" "[I"] ++ wsX10)
def wsX1_check : List Cond := .code yX1_check cX1_check 9 (some .long) :: ([.constantLong RX1 44 (4294967295), .fieldLink RX1 7 "BlockJournalModel" "store" "[I", .constantLong RX1 46 (517762881)] ++ wsX10)
def wsX1_target : List Cond := .code yX1_target cX1_target 2 (some .int) :: ([.methodLink RX1 48 yX1_number, .instanceMethod yX1_number, .selects RX1 yX1_number yX1_number, .initialized RX1, .code yX1_number cX1_number 6 (some .long), .constantLong RX1 42 (256), .fieldLink RX1 7 "BlockJournalModel" "store" "[I"] ++ wsX10)
def wsX1_isRight : List Cond := .code yX1_isRight cX1_isRight 4 (some .boolean) :: ([.fieldLink RX1 7 "BlockJournalModel" "store" "[I", .constantLong RX1 52 (24), .constantLong RX1 62 (25), .constantLong RX1 64 (95), .methodLink RX1 54 yX1_within, .static yX1_within, .initialized RX1, .code yX1_within cX1_within 6 (some .boolean), .methodLink RX1 58 yX1_target, .instanceMethod yX1_target, .selects RX1 yX1_target yX1_target, .code yX1_target cX1_target 2 (some .int), .methodLink RX1 48 yX1_number, .instanceMethod yX1_number, .selects RX1 yX1_number yX1_number, .code yX1_number cX1_number 6 (some .long), .constantLong RX1 42 (256), .methodLink RX1 66 yX1_check, .instanceMethod yX1_check, .selects RX1 yX1_check yX1_check, .code yX1_check cX1_check 9 (some .long), .constantLong RX1 44 (4294967295), .constantLong RX1 46 (517762881)] ++ wsX10)
def wsX1_feed : List Cond := .code yX1_feed cX1_feed 5 (some .int) :: ([.constantLong RX1 70 (8), .fieldLink RX1 76 "BlockJournalModel" "taped" "I", .fieldLink RX1 13 "BlockJournalModel" "tape" "[I", .constantLong RX1 79 (255), .methodLink RX1 54 yX1_within, .static yX1_within, .initialized RX1, .code yX1_within cX1_within 6 (some .boolean), .methodLink RX1 72 yX1_fails, .instanceMethod yX1_fails, .selects RX1 yX1_fails yX1_fails, .code yX1_fails cX1_fails 3 (some .boolean), .fieldLink RX1 31 "BlockJournalModel" "thrown" "I"] ++ wsX10)
def wsX1_find : List Cond := .code yX1_find cX1_find 3 (some .int) :: ([.fieldLink RX1 81 "BlockJournalModel" "changes" "I", .fieldLink RX1 16 "BlockJournalModel" "change" "[I"] ++ wsX10)
def wsX1_put : List Cond := .code yX1_put cX1_put 4 (some .int) :: ([.constantLong RX1 62 (25), .constantLong RX1 64 (95), .fieldLink RX1 81 "BlockJournalModel" "changes" "I", .fieldLink RX1 16 "BlockJournalModel" "change" "[I", .fieldLink RX1 19 "BlockJournalModel" "fresh" "[I", .fieldLink RX1 76 "BlockJournalModel" "taped" "I", .fieldLink RX1 13 "BlockJournalModel" "tape" "[I", .methodLink RX1 54 yX1_within, .static yX1_within, .initialized RX1, .code yX1_within cX1_within 6 (some .boolean), .methodLink RX1 72 yX1_fails, .instanceMethod yX1_fails, .selects RX1 yX1_fails yX1_fails, .code yX1_fails cX1_fails 3 (some .boolean), .fieldLink RX1 31 "BlockJournalModel" "thrown" "I", .methodLink RX1 84 yX1_find, .instanceMethod yX1_find, .selects RX1 yX1_find yX1_find, .code yX1_find cX1_find 3 (some .int)] ++ wsX10)
def wsX1_drop : List Cond := .code yX1_drop cX1_drop 2 (some .int) :: ([.fieldLink RX1 31 "BlockJournalModel" "thrown" "I", .fieldLink RX1 81 "BlockJournalModel" "changes" "I"] ++ wsX10)
def wsX1_ranked : List Cond := .code yX1_ranked cX1_ranked 5 (some .int) :: ([.fieldLink RX1 81 "BlockJournalModel" "changes" "I", .fieldLink RX1 16 "BlockJournalModel" "change" "[I"] ++ wsX10)
def wsX1_headed : List Cond := .code yX1_headed cX1_headed 7 none :: ([.fieldLink RX1 28 "BlockJournalModel" "row" "[I", .constantLong RX1 79 (255), .fieldLink RX1 16 "BlockJournalModel" "change" "[I", .methodLink RX1 66 yX1_check, .instanceMethod yX1_check, .selects RX1 yX1_check yX1_check, .initialized RX1, .code yX1_check cX1_check 9 (some .long), .constantLong RX1 44 (4294967295), .fieldLink RX1 7 "BlockJournalModel" "store" "[I", .constantLong RX1 46 (517762881), .methodLink RX1 87 yX1_ranked, .instanceMethod yX1_ranked, .selects RX1 yX1_ranked yX1_ranked, .code yX1_ranked cX1_ranked 5 (some .int), .fieldLink RX1 81 "BlockJournalModel" "changes" "I"] ++ wsX10)
def wsX1_commits_r1 : List Cond := [Cond.fieldLink RX1 28 "BlockJournalModel" "row" "[I", Cond.fieldLink RX1 19 "BlockJournalModel" "fresh" "[I", Cond.fieldLink RX1 16 "BlockJournalModel" "change" "[I", Cond.methodLink RX1 90 yX1_headed, Cond.instanceMethod yX1_headed, Cond.selects RX1 yX1_headed yX1_headed, Cond.initialized RX1, Cond.code yX1_headed cX1_headed 7 none, Cond.constantLong RX1 79 (255), Cond.methodLink RX1 66 yX1_check, Cond.instanceMethod yX1_check, Cond.selects RX1 yX1_check yX1_check, Cond.code yX1_check cX1_check 9 (some .long), Cond.constantLong RX1 44 (4294967295), Cond.fieldLink RX1 7 "BlockJournalModel" "store" "[I", Cond.constantLong RX1 46 (517762881), Cond.methodLink RX1 87 yX1_ranked, Cond.instanceMethod yX1_ranked, Cond.selects RX1 yX1_ranked yX1_ranked, Cond.code yX1_ranked cX1_ranked 5 (some .int), Cond.fieldLink RX1 81 "BlockJournalModel" "changes" "I", Cond.methodLink RX1 94 yX1_writes, Cond.instanceMethod yX1_writes, Cond.selects RX1 yX1_writes yX1_writes]
def wsX1_commits_r2 : List Cond := [Cond.code yX1_writes cX1_writes 3 (some .boolean), Cond.fieldLink RX1 35 "BlockJournalModel" "off" "Z", Cond.fieldLink RX1 24 "BlockJournalModel" "left" "J", Cond.fieldLink RX1 39 "BlockJournalModel" "done" "J"]
def wsX1_commits : List Cond := .code yX1_commits cX1_commits 7 (some .boolean) :: ((wsX1_commits_r1 ++ wsX1_commits_r2) ++ wsX10)
def wsX1_commit_r1 : List Cond := [Cond.fieldLink RX1 81 "BlockJournalModel" "changes" "I", Cond.fieldLink RX1 35 "BlockJournalModel" "off" "Z", Cond.methodLink RX1 72 yX1_fails, Cond.instanceMethod yX1_fails, Cond.selects RX1 yX1_fails yX1_fails, Cond.initialized RX1, Cond.code yX1_fails cX1_fails 3 (some .boolean), Cond.fieldLink RX1 31 "BlockJournalModel" "thrown" "I", Cond.methodLink RX1 48 yX1_number, Cond.instanceMethod yX1_number, Cond.selects RX1 yX1_number yX1_number, Cond.code yX1_number cX1_number 6 (some .long), Cond.constantLong RX1 42 (256), Cond.fieldLink RX1 7 "BlockJournalModel" "store" "[I", Cond.methodLink RX1 98 yX1_commits, Cond.instanceMethod yX1_commits, Cond.selects RX1 yX1_commits yX1_commits, Cond.code yX1_commits cX1_commits 7 (some .boolean), Cond.fieldLink RX1 28 "BlockJournalModel" "row" "[I", Cond.fieldLink RX1 19 "BlockJournalModel" "fresh" "[I", Cond.fieldLink RX1 16 "BlockJournalModel" "change" "[I", Cond.methodLink RX1 90 yX1_headed, Cond.instanceMethod yX1_headed, Cond.selects RX1 yX1_headed yX1_headed]
def wsX1_commit_r2 : List Cond := [Cond.code yX1_headed cX1_headed 7 none, Cond.constantLong RX1 79 (255), Cond.methodLink RX1 66 yX1_check, Cond.instanceMethod yX1_check, Cond.selects RX1 yX1_check yX1_check, Cond.code yX1_check cX1_check 9 (some .long), Cond.constantLong RX1 44 (4294967295), Cond.constantLong RX1 46 (517762881), Cond.methodLink RX1 87 yX1_ranked, Cond.instanceMethod yX1_ranked, Cond.selects RX1 yX1_ranked yX1_ranked, Cond.code yX1_ranked cX1_ranked 5 (some .int), Cond.methodLink RX1 94 yX1_writes, Cond.instanceMethod yX1_writes, Cond.selects RX1 yX1_writes yX1_writes, Cond.code yX1_writes cX1_writes 3 (some .boolean), Cond.fieldLink RX1 24 "BlockJournalModel" "left" "J", Cond.fieldLink RX1 39 "BlockJournalModel" "done" "J"]
def wsX1_commit : List Cond := .code yX1_commit cX1_commit 5 (some .boolean) :: ((wsX1_commit_r1 ++ wsX1_commit_r2) ++ wsX10)
def wsX1_recover_r1 : List Cond := [Cond.fieldLink RX1 35 "BlockJournalModel" "off" "Z", Cond.fieldLink RX1 7 "BlockJournalModel" "store" "[I", Cond.fieldLink RX1 28 "BlockJournalModel" "row" "[I", Cond.methodLink RX1 72 yX1_fails, Cond.instanceMethod yX1_fails, Cond.selects RX1 yX1_fails yX1_fails, Cond.initialized RX1, Cond.code yX1_fails cX1_fails 3 (some .boolean), Cond.fieldLink RX1 31 "BlockJournalModel" "thrown" "I", Cond.methodLink RX1 102 yX1_isRight, Cond.instanceMethod yX1_isRight, Cond.selects RX1 yX1_isRight yX1_isRight, Cond.code yX1_isRight cX1_isRight 4 (some .boolean), Cond.constantLong RX1 52 (24), Cond.constantLong RX1 62 (25), Cond.constantLong RX1 64 (95), Cond.methodLink RX1 54 yX1_within, Cond.static yX1_within, Cond.code yX1_within cX1_within 6 (some .boolean), Cond.methodLink RX1 58 yX1_target, Cond.instanceMethod yX1_target, Cond.selects RX1 yX1_target yX1_target, Cond.code yX1_target cX1_target 2 (some .int), Cond.methodLink RX1 48 yX1_number]
def wsX1_recover_r2 : List Cond := [Cond.instanceMethod yX1_number, Cond.selects RX1 yX1_number yX1_number, Cond.code yX1_number cX1_number 6 (some .long), Cond.constantLong RX1 42 (256), Cond.methodLink RX1 66 yX1_check, Cond.instanceMethod yX1_check, Cond.selects RX1 yX1_check yX1_check, Cond.code yX1_check cX1_check 9 (some .long), Cond.constantLong RX1 44 (4294967295), Cond.constantLong RX1 46 (517762881), Cond.methodLink RX1 94 yX1_writes, Cond.instanceMethod yX1_writes, Cond.selects RX1 yX1_writes yX1_writes, Cond.code yX1_writes cX1_writes 3 (some .boolean), Cond.fieldLink RX1 24 "BlockJournalModel" "left" "J", Cond.fieldLink RX1 39 "BlockJournalModel" "done" "J", Cond.methodLink RX1 90 yX1_headed, Cond.instanceMethod yX1_headed, Cond.selects RX1 yX1_headed yX1_headed, Cond.code yX1_headed cX1_headed 7 none, Cond.constantLong RX1 79 (255), Cond.fieldLink RX1 16 "BlockJournalModel" "change" "[I", Cond.methodLink RX1 87 yX1_ranked, Cond.instanceMethod yX1_ranked]
def wsX1_recover_r3 : List Cond := [Cond.selects RX1 yX1_ranked yX1_ranked, Cond.code yX1_ranked cX1_ranked 5 (some .int), Cond.fieldLink RX1 81 "BlockJournalModel" "changes" "I"]
def wsX1_recover : List Cond := .code yX1_recover cX1_recover 6 (some .int) :: ((wsX1_recover_r1 ++ (wsX1_recover_r2 ++ wsX1_recover_r3)) ++ wsX10)
def wsX1_lose : List Cond := .code yX1_lose cX1_lose 2 none :: ([.fieldLink RX1 35 "BlockJournalModel" "off" "Z", .fieldLink RX1 24 "BlockJournalModel" "left" "J", .methodLink RX1 72 yX1_fails, .instanceMethod yX1_fails, .selects RX1 yX1_fails yX1_fails, .initialized RX1, .code yX1_fails cX1_fails 3 (some .boolean), .fieldLink RX1 31 "BlockJournalModel" "thrown" "I"] ++ wsX10)
def wsX1_power : List Cond := .code yX1_power cX1_power 2 (some .boolean) :: ([.fieldLink RX1 31 "BlockJournalModel" "thrown" "I", .fieldLink RX1 35 "BlockJournalModel" "off" "Z", .constantLong RX1 22 (-1), .fieldLink RX1 24 "BlockJournalModel" "left" "J"] ++ wsX10)
def wsX1_spoil : List Cond := .code yX1_spoil cX1_spoil 5 (some .int) :: ([.constantLong RX1 64 (95), .constantLong RX1 106 (63), .fieldLink RX1 7 "BlockJournalModel" "store" "[I", .methodLink RX1 54 yX1_within, .static yX1_within, .initialized RX1, .code yX1_within cX1_within 6 (some .boolean), .methodLink RX1 72 yX1_fails, .instanceMethod yX1_fails, .selects RX1 yX1_fails yX1_fails, .code yX1_fails cX1_fails 3 (some .boolean), .fieldLink RX1 31 "BlockJournalModel" "thrown" "I"] ++ wsX10)
def wsX1_at : List Cond := .code yX1_at cX1_at 3 (some .int) :: ([.constantLong RX1 64 (95), .constantLong RX1 106 (63), .fieldLink RX1 7 "BlockJournalModel" "store" "[I", .methodLink RX1 54 yX1_within, .static yX1_within, .initialized RX1, .code yX1_within cX1_within 6 (some .boolean), .methodLink RX1 72 yX1_fails, .instanceMethod yX1_fails, .selects RX1 yX1_fails yX1_fails, .code yX1_fails cX1_fails 3 (some .boolean), .fieldLink RX1 31 "BlockJournalModel" "thrown" "I"] ++ wsX10)
def wsX1_change : List Cond := .code yX1_change cX1_change 2 (some .int) :: ([.fieldLink RX1 81 "BlockJournalModel" "changes" "I", .fieldLink RX1 16 "BlockJournalModel" "change" "[I", .methodLink RX1 54 yX1_within, .static yX1_within, .initialized RX1, .code yX1_within cX1_within 6 (some .boolean), .methodLink RX1 72 yX1_fails, .instanceMethod yX1_fails, .selects RX1 yX1_fails yX1_fails, .code yX1_fails cX1_fails 3 (some .boolean), .fieldLink RX1 31 "BlockJournalModel" "thrown" "I", .methodLink RX1 87 yX1_ranked, .instanceMethod yX1_ranked, .selects RX1 yX1_ranked yX1_ranked, .code yX1_ranked cX1_ranked 5 (some .int)] ++ wsX10)
def wsX1_look_r1 : List Cond := [Cond.constantLong RX1 108 (6), Cond.fieldLink RX1 7 "BlockJournalModel" "store" "[I", Cond.fieldLink RX1 81 "BlockJournalModel" "changes" "I", Cond.fieldLink RX1 39 "BlockJournalModel" "done" "J", Cond.fieldLink RX1 35 "BlockJournalModel" "off" "Z", Cond.fieldLink RX1 24 "BlockJournalModel" "left" "J", Cond.methodLink RX1 54 yX1_within, Cond.static yX1_within, Cond.initialized RX1, Cond.code yX1_within cX1_within 6 (some .boolean), Cond.methodLink RX1 72 yX1_fails, Cond.instanceMethod yX1_fails, Cond.selects RX1 yX1_fails yX1_fails, Cond.code yX1_fails cX1_fails 3 (some .boolean), Cond.fieldLink RX1 31 "BlockJournalModel" "thrown" "I", Cond.methodLink RX1 48 yX1_number, Cond.instanceMethod yX1_number, Cond.selects RX1 yX1_number yX1_number, Cond.code yX1_number cX1_number 6 (some .long), Cond.constantLong RX1 42 (256), Cond.methodLink RX1 102 yX1_isRight, Cond.instanceMethod yX1_isRight, Cond.selects RX1 yX1_isRight yX1_isRight, Cond.code yX1_isRight cX1_isRight 4 (some .boolean)]
def wsX1_look_r2 : List Cond := [Cond.constantLong RX1 52 (24), Cond.constantLong RX1 62 (25), Cond.constantLong RX1 64 (95), Cond.methodLink RX1 58 yX1_target, Cond.instanceMethod yX1_target, Cond.selects RX1 yX1_target yX1_target, Cond.code yX1_target cX1_target 2 (some .int), Cond.methodLink RX1 66 yX1_check, Cond.instanceMethod yX1_check, Cond.selects RX1 yX1_check yX1_check, Cond.code yX1_check cX1_check 9 (some .long), Cond.constantLong RX1 44 (4294967295), Cond.constantLong RX1 46 (517762881)]
def wsX1_look : List Cond := .code yX1_look cX1_look 2 (some .long) :: ((wsX1_look_r1 ++ wsX1_look_r2) ++ wsX10)
def wsL_feed : List Cond := .codeWith yL_feed cL_feed 6 (some .int) [(0, 11, 14, 13), (0, 11, 18, 15)] :: ([.classLink RL 13 "java/lang/IllegalArgumentException", .classLink RL 15 "java/lang/IllegalStateException", .methodLink RL 7 yX0_feed, .instanceMethod yX0_feed, .selects RX0 yX0_feed yX0_feed, .initialized RX0, .code yX0_feed cX0_feed 5 (some .int), .classLink RX0 36 "java/lang/IllegalArgumentException", .initialized "java/lang/IllegalArgumentException", .classLink RX0 46 "java/lang/IllegalStateException", .initialized "java/lang/IllegalStateException", .fieldLink RX0 43 "BlockJournal" "tapeLength" "I", .fieldLink RX0 19 "BlockJournal" "tape" "[I"] ++ wsX00 ++ (vx_atS RX0 40 "java/lang/IllegalArgumentException" ["java/lang/RuntimeException", "java/lang/Exception"]).filter goodWord ++ (vx_atS RX0 50 "java/lang/IllegalStateException" ["java/lang/RuntimeException", "java/lang/Exception"]).filter goodWord)
def wsL_put_r1 : List Cond := [Cond.classLink RL 13 "java/lang/IllegalArgumentException", Cond.classLink RL 15 "java/lang/IllegalStateException", Cond.methodLink RL 17 yX0_put, Cond.instanceMethod yX0_put, Cond.selects RX0 yX0_put yX0_put, Cond.initialized RX0, Cond.code yX0_put cX0_put 3 (some .int), Cond.classLink RX0 36 "java/lang/IllegalArgumentException", Cond.initialized "java/lang/IllegalArgumentException", Cond.classLink RX0 46 "java/lang/IllegalStateException", Cond.initialized "java/lang/IllegalStateException", Cond.fieldLink RX0 64 "BlockJournal" "changes" "I", Cond.fieldLink RX0 19 "BlockJournal" "tape" "[I", Cond.fieldLink RX0 25 "BlockJournal" "changeBytes" "[I", Cond.methodLink RX0 73 arraycopyName, Cond.native arraycopyName, Cond.static arraycopyName, Cond.initialized "java/lang/System", Cond.fieldLink RX0 43 "BlockJournal" "tapeLength" "I", Cond.methodLink RX0 51 yX0_isTarget, Cond.static yX0_isTarget, Cond.code yX0_isTarget cX0_isTarget 1 (some .boolean), Cond.methodLink RX0 57 yX0_placeOf, Cond.instanceMethod yX0_placeOf]
def wsL_put_r2 : List Cond := [Cond.selects RX0 yX0_placeOf yX0_placeOf, Cond.code yX0_placeOf cX0_placeOf 3 (some .int), Cond.fieldLink RX0 22 "BlockJournal" "changeBlocks" "[I", Cond.methodLink RX0 60 yX0_isChangeOf, Cond.instanceMethod yX0_isChangeOf, Cond.selects RX0 yX0_isChangeOf yX0_isChangeOf, Cond.code yX0_isChangeOf cX0_isChangeOf 3 (some .boolean), Cond.methodLink RX0 69 yX0_openPlace, Cond.instanceMethod yX0_openPlace, Cond.selects RX0 yX0_openPlace yX0_openPlace, Cond.code yX0_openPlace cX0_openPlace 4 none, Cond.methodLink RX0 79 yJ7_fill_53178, Cond.static yJ7_fill_53178, Cond.initialized RJ7, Cond.code yJ7_fill_53178 cJ7_fill_53178 4 none]
def wsL_put : List Cond := .codeWith yL_put cL_put 4 (some .int) [(0, 9, 12, 13), (0, 9, 15, 15)] :: ((wsL_put_r1 ++ wsL_put_r2) ++ wsX00 ++ (vx_atS RX0 40 "java/lang/IllegalArgumentException" ["java/lang/RuntimeException", "java/lang/Exception"]).filter goodWord ++ (vx_atS RX0 50 "java/lang/IllegalStateException" ["java/lang/RuntimeException", "java/lang/Exception"]).filter goodWord)
def wsL_commit_r1 : List Cond := [Cond.classLink RL 15 "java/lang/IllegalStateException", Cond.methodLink RL 21 yX0_commit, Cond.instanceMethod yX0_commit, Cond.selects RX0 yX0_commit yX0_commit, Cond.initialized RX0, Cond.code yX0_commit cX0_commit 3 (some .boolean), Cond.classLink RX0 46 "java/lang/IllegalStateException", Cond.initialized "java/lang/IllegalStateException", Cond.fieldLink RX0 64 "BlockJournal" "changes" "I", Cond.fieldLink RX0 85 "BlockJournal" "off" "Z", Cond.fieldLink RX0 25 "BlockJournal" "changeBytes" "[I", Cond.fieldLink RX0 22 "BlockJournal" "changeBlocks" "[I", Cond.methodLink RX0 91 yX0_headWord, Cond.instanceMethod yX0_headWord, Cond.selects RX0 yX0_headWord yX0_headWord, Cond.code yX0_headWord cX0_headWord 4 (some .int), Cond.fieldLink RX0 9 "BlockJournal" "store" "[I", Cond.methodLink RX0 94 yX0_write, Cond.instanceMethod yX0_write, Cond.selects RX0 yX0_write yX0_write, Cond.code yX0_write cX0_write 4 none, Cond.fieldLink RX0 28 "BlockJournal" "writesLeft" "I", Cond.methodLink RX0 73 arraycopyName, Cond.native arraycopyName]
def wsL_commit_r2 : List Cond := [Cond.static arraycopyName, Cond.initialized "java/lang/System", Cond.fieldLink RX0 132 "BlockJournal" "writesDone" "J", Cond.methodLink RX0 98 yX0_writeFullHead, Cond.instanceMethod yX0_writeFullHead, Cond.selects RX0 yX0_writeFullHead yX0_writeFullHead, Cond.code yX0_writeFullHead cX0_writeFullHead 3 none, Cond.fieldLink RX0 16 "BlockJournal" "newHead" "[I", Cond.methodLink RX0 79 yJ7_fill_53178, Cond.static yJ7_fill_53178, Cond.initialized RJ7, Cond.code yJ7_fill_53178 cJ7_fill_53178 4 none, Cond.methodLink RX0 138 yX0_setWord, Cond.instanceMethod yX0_setWord, Cond.selects RX0 yX0_setWord yX0_setWord, Cond.code yX0_setWord cX0_setWord 4 none, Cond.methodLink RX0 141 yX0_payloadCheck, Cond.instanceMethod yX0_payloadCheck, Cond.selects RX0 yX0_payloadCheck yX0_payloadCheck, Cond.code yX0_payloadCheck cX0_payloadCheck 5 (some .int), Cond.fieldLink RX0 13 "BlockJournal" "checkSteps" "[I", Cond.methodLink RX0 102 yX0_writeEmptyHead, Cond.instanceMethod yX0_writeEmptyHead, Cond.selects RX0 yX0_writeEmptyHead yX0_writeEmptyHead]
def wsL_commit_r3 : List Cond := [Cond.code yX0_writeEmptyHead cX0_writeEmptyHead 2 none]
def wsL_commit : List Cond := .codeWith yL_commit cL_commit 3 (some .int) [(0, 15, 18, 15)] :: ((wsL_commit_r1 ++ (wsL_commit_r2 ++ wsL_commit_r3)) ++ wsX00 ++ (vx_atS RX0 50 "java/lang/IllegalStateException" ["java/lang/RuntimeException", "java/lang/Exception"]).filter goodWord)
def wsL_recover_r1 : List Cond := [Cond.classLink RL 15 "java/lang/IllegalStateException", Cond.methodLink RL 25 yX0_recover, Cond.instanceMethod yX0_recover, Cond.selects RX0 yX0_recover yX0_recover, Cond.initialized RX0, Cond.code yX0_recover cX0_recover 3 (some .int), Cond.classLink RX0 46 "java/lang/IllegalStateException", Cond.initialized "java/lang/IllegalStateException", Cond.fieldLink RX0 85 "BlockJournal" "off" "Z", Cond.fieldLink RX0 9 "BlockJournal" "store" "[I", Cond.methodLink RX0 107 yX0_headIsRight, Cond.instanceMethod yX0_headIsRight, Cond.selects RX0 yX0_headIsRight yX0_headIsRight, Cond.code yX0_headIsRight cX0_headIsRight 2 (some .boolean), Cond.methodLink RX0 111 yX0_headCount, Cond.instanceMethod yX0_headCount, Cond.selects RX0 yX0_headCount yX0_headCount, Cond.code yX0_headCount cX0_headCount 1 (some .int), Cond.methodLink RX0 144 yX0_targetsAreRight, Cond.instanceMethod yX0_targetsAreRight, Cond.selects RX0 yX0_targetsAreRight yX0_targetsAreRight, Cond.code yX0_targetsAreRight cX0_targetsAreRight 5 (some .boolean), Cond.methodLink RX0 115 yX0_headTarget, Cond.instanceMethod yX0_headTarget]
def wsL_recover_r2 : List Cond := [Cond.selects RX0 yX0_headTarget yX0_headTarget, Cond.code yX0_headTarget cX0_headTarget 3 (some .int), Cond.methodLink RX0 51 yX0_isTarget, Cond.static yX0_isTarget, Cond.code yX0_isTarget cX0_isTarget 1 (some .boolean), Cond.methodLink RX0 91 yX0_headWord, Cond.instanceMethod yX0_headWord, Cond.selects RX0 yX0_headWord yX0_headWord, Cond.code yX0_headWord cX0_headWord 4 (some .int), Cond.methodLink RX0 141 yX0_payloadCheck, Cond.instanceMethod yX0_payloadCheck, Cond.selects RX0 yX0_payloadCheck yX0_payloadCheck, Cond.code yX0_payloadCheck cX0_payloadCheck 5 (some .int), Cond.fieldLink RX0 13 "BlockJournal" "checkSteps" "[I", Cond.methodLink RX0 94 yX0_write, Cond.instanceMethod yX0_write, Cond.selects RX0 yX0_write yX0_write, Cond.code yX0_write cX0_write 4 none, Cond.fieldLink RX0 28 "BlockJournal" "writesLeft" "I", Cond.methodLink RX0 73 arraycopyName, Cond.native arraycopyName, Cond.static arraycopyName, Cond.initialized "java/lang/System", Cond.fieldLink RX0 132 "BlockJournal" "writesDone" "J"]
def wsL_recover_r3 : List Cond := [Cond.methodLink RX0 102 yX0_writeEmptyHead, Cond.instanceMethod yX0_writeEmptyHead, Cond.selects RX0 yX0_writeEmptyHead yX0_writeEmptyHead, Cond.code yX0_writeEmptyHead cX0_writeEmptyHead 2 none, Cond.fieldLink RX0 16 "BlockJournal" "newHead" "[I", Cond.methodLink RX0 79 yJ7_fill_53178, Cond.static yJ7_fill_53178, Cond.initialized RJ7, Cond.code yJ7_fill_53178 cJ7_fill_53178 4 none, Cond.methodLink RX0 138 yX0_setWord, Cond.instanceMethod yX0_setWord, Cond.selects RX0 yX0_setWord yX0_setWord, Cond.code yX0_setWord cX0_setWord 4 none]
def wsL_recover : List Cond := .codeWith yL_recover cL_recover 3 (some .int) [(0, 8, 11, 15)] :: ((wsL_recover_r1 ++ (wsL_recover_r2 ++ wsL_recover_r3)) ++ wsX00 ++ (vx_atS RX0 50 "java/lang/IllegalStateException" ["java/lang/RuntimeException", "java/lang/Exception"]).filter goodWord)
def wsL_lose : List Cond := .codeWith yL_lose cL_lose 3 (some .int) [(0, 5, 8, 13), (0, 5, 11, 15)] :: ([.classLink RL 13 "java/lang/IllegalArgumentException", .classLink RL 15 "java/lang/IllegalStateException", .methodLink RL 29 yX0_lose, .instanceMethod yX0_lose, .selects RX0 yX0_lose yX0_lose, .initialized RX0, .code yX0_lose cX0_lose 2 none, .classLink RX0 36 "java/lang/IllegalArgumentException", .initialized "java/lang/IllegalArgumentException", .classLink RX0 46 "java/lang/IllegalStateException", .initialized "java/lang/IllegalStateException", .fieldLink RX0 85 "BlockJournal" "off" "Z", .fieldLink RX0 28 "BlockJournal" "writesLeft" "I"] ++ wsX00 ++ (vx_atS RX0 40 "java/lang/IllegalArgumentException" ["java/lang/RuntimeException", "java/lang/Exception"]).filter goodWord ++ (vx_atS RX0 50 "java/lang/IllegalStateException" ["java/lang/RuntimeException", "java/lang/Exception"]).filter goodWord)
def wsL_spoil : List Cond := .codeWith yL_spoil cL_spoil 6 (some .int) [(0, 12, 15, 13)] :: ([.classLink RL 13 "java/lang/IllegalArgumentException", .methodLink RL 33 yX0_spoil, .instanceMethod yX0_spoil, .selects RX0 yX0_spoil yX0_spoil, .initialized RX0, .code yX0_spoil cX0_spoil 5 (some .int), .classLink RX0 36 "java/lang/IllegalArgumentException", .initialized "java/lang/IllegalArgumentException", .fieldLink RX0 9 "BlockJournal" "store" "[I", .methodLink RX0 120 yX0_isInStore, .static yX0_isInStore, .code yX0_isInStore cX0_isInStore 2 (some .boolean)] ++ wsX00 ++ (vx_atS RX0 40 "java/lang/IllegalArgumentException" ["java/lang/RuntimeException", "java/lang/Exception"]).filter goodWord)
def wsL_at : List Cond := .codeWith yL_at cL_at 5 (some .int) [(0, 10, 13, 13)] :: ([.classLink RL 13 "java/lang/IllegalArgumentException", .methodLink RL 37 yX0_at, .instanceMethod yX0_at, .selects RX0 yX0_at yX0_at, .initialized RX0, .code yX0_at cX0_at 3 (some .int), .classLink RX0 36 "java/lang/IllegalArgumentException", .initialized "java/lang/IllegalArgumentException", .fieldLink RX0 9 "BlockJournal" "store" "[I", .methodLink RX0 120 yX0_isInStore, .static yX0_isInStore, .code yX0_isInStore cX0_isInStore 2 (some .boolean)] ++ wsX00 ++ (vx_atS RX0 40 "java/lang/IllegalArgumentException" ["java/lang/RuntimeException", "java/lang/Exception"]).filter goodWord)
def wsL_change : List Cond := .codeWith yL_change cL_change 4 (some .int) [(0, 9, 12, 44)] :: ([.classLink RL 44 "java/util/NoSuchElementException", .methodLink RL 41 yX0_change, .instanceMethod yX0_change, .selects RX0 yX0_change yX0_change, .initialized RX0, .code yX0_change cX0_change 2 (some .int), .classLink RX0 125 "java/util/NoSuchElementException", .initialized "java/util/NoSuchElementException", .fieldLink RX0 64 "BlockJournal" "changes" "I", .fieldLink RX0 22 "BlockJournal" "changeBlocks" "[I"] ++ wsX00 ++ (bx_atN RX0 129).filter goodWord)
def wsL_look_r1 : List Cond := [Cond.classLink RL 44 "java/util/NoSuchElementException", Cond.methodLink RL 46 yX0_look, Cond.instanceMethod yX0_look, Cond.selects RX0 yX0_look yX0_look, Cond.initialized RX0, Cond.code yX0_look cX0_look 2 (some .long), Cond.classLink RX0 125 "java/util/NoSuchElementException", Cond.initialized "java/util/NoSuchElementException", Cond.constantLong RX0 130 (4294967295), Cond.fieldLink RX0 64 "BlockJournal" "changes" "I", Cond.fieldLink RX0 132 "BlockJournal" "writesDone" "J", Cond.fieldLink RX0 85 "BlockJournal" "off" "Z", Cond.fieldLink RX0 28 "BlockJournal" "writesLeft" "I", Cond.methodLink RX0 91 yX0_headWord, Cond.instanceMethod yX0_headWord, Cond.selects RX0 yX0_headWord yX0_headWord, Cond.code yX0_headWord cX0_headWord 4 (some .int), Cond.fieldLink RX0 9 "BlockJournal" "store" "[I", Cond.methodLink RX0 111 yX0_headCount, Cond.instanceMethod yX0_headCount, Cond.selects RX0 yX0_headCount yX0_headCount, Cond.code yX0_headCount cX0_headCount 1 (some .int), Cond.methodLink RX0 107 yX0_headIsRight, Cond.instanceMethod yX0_headIsRight]
def wsL_look_r2 : List Cond := [Cond.selects RX0 yX0_headIsRight yX0_headIsRight, Cond.code yX0_headIsRight cX0_headIsRight 2 (some .boolean), Cond.methodLink RX0 144 yX0_targetsAreRight, Cond.instanceMethod yX0_targetsAreRight, Cond.selects RX0 yX0_targetsAreRight yX0_targetsAreRight, Cond.code yX0_targetsAreRight cX0_targetsAreRight 5 (some .boolean), Cond.methodLink RX0 115 yX0_headTarget, Cond.instanceMethod yX0_headTarget, Cond.selects RX0 yX0_headTarget yX0_headTarget, Cond.code yX0_headTarget cX0_headTarget 3 (some .int), Cond.methodLink RX0 51 yX0_isTarget, Cond.static yX0_isTarget, Cond.code yX0_isTarget cX0_isTarget 1 (some .boolean), Cond.methodLink RX0 141 yX0_payloadCheck, Cond.instanceMethod yX0_payloadCheck, Cond.selects RX0 yX0_payloadCheck yX0_payloadCheck, Cond.code yX0_payloadCheck cX0_payloadCheck 5 (some .int), Cond.fieldLink RX0 13 "BlockJournal" "checkSteps" "[I"]
def wsL_look : List Cond := .codeWith yL_look cL_look 4 (some .int) [(0, 8, 11, 44)] :: ((wsL_look_r1 ++ wsL_look_r2) ++ wsX00 ++ (bx_atN RX0 129).filter goodWord)
def wsL_law0_r1 : List Cond := [Cond.classLink RL 8 RX0, Cond.instantiable RX0 11, Cond.initialized RX0, Cond.classLink RL 51 RX1, Cond.instantiable RX1 11, Cond.initialized RX1, Cond.arrayClass .long, Cond.constantLong RL 54 (4294967295), Cond.methodLink RL 50 yX0_init, Cond.instanceMethod yX0_init, Cond.code yX0_init cX0_init 2 none, Cond.methodLink RX0 1 objectInit, Cond.instanceMethod objectInit, Cond.code objectInit ⟨#[0xb1]⟩ 1 none, Cond.arrayClass .int, Cond.fieldLink RX0 9 "BlockJournal" "store" "[I", Cond.fieldLink RX0 13 "BlockJournal" "checkSteps" "[I", Cond.fieldLink RX0 16 "BlockJournal" "newHead" "[I", Cond.fieldLink RX0 19 "BlockJournal" "tape" "[I", Cond.fieldLink RX0 22 "BlockJournal" "changeBlocks" "[I", Cond.fieldLink RX0 25 "BlockJournal" "changeBytes" "[I", Cond.fieldLink RX0 28 "BlockJournal" "writesLeft" "I", Cond.methodLink RX0 32 yX0_eightSteps, Cond.static yX0_eightSteps]
def wsL_law0_r2 : List Cond := [Cond.code yX0_eightSteps cX0_eightSteps 3 (some .int), Cond.constant RX0 147 (-2097792136), Cond.methodLink RL 53 yX1_init, Cond.instanceMethod yX1_init, Cond.code yX1_init cX1_init 1 none, Cond.methodLink RX1 1 objectInit, Cond.fieldLink RX1 7 "BlockJournalModel" "store" "[I", Cond.fieldLink RX1 13 "BlockJournalModel" "tape" "[I", Cond.fieldLink RX1 16 "BlockJournalModel" "change" "[I", Cond.fieldLink RX1 19 "BlockJournalModel" "fresh" "[I", Cond.constantLong RX1 22 (-1), Cond.fieldLink RX1 24 "BlockJournalModel" "left" "J", Cond.fieldLink RX1 28 "BlockJournalModel" "row" "[I", Cond.methodLink RL 56 yL_feed, Cond.static yL_feed, Cond.initialized RL, Cond.codeWith yL_feed cL_feed 6 (some .int) [(0, 11, 14, 13), (0, 11, 18, 15)], Cond.classLink RL 13 "java/lang/IllegalArgumentException", Cond.classLink RL 15 "java/lang/IllegalStateException", Cond.methodLink RL 7 yX0_feed, Cond.instanceMethod yX0_feed, Cond.selects RX0 yX0_feed yX0_feed, Cond.code yX0_feed cX0_feed 5 (some .int), Cond.classLink RX0 36 "java/lang/IllegalArgumentException"]
def wsL_law0_r3 : List Cond := [Cond.initialized "java/lang/IllegalArgumentException", Cond.classLink RX0 46 "java/lang/IllegalStateException", Cond.initialized "java/lang/IllegalStateException", Cond.fieldLink RX0 43 "BlockJournal" "tapeLength" "I", Cond.methodLink RL 61 yX1_feed, Cond.instanceMethod yX1_feed, Cond.selects RX1 yX1_feed yX1_feed, Cond.code yX1_feed cX1_feed 5 (some .int), Cond.constantLong RX1 70 (8), Cond.fieldLink RX1 76 "BlockJournalModel" "taped" "I", Cond.constantLong RX1 79 (255), Cond.methodLink RX1 54 yX1_within, Cond.static yX1_within, Cond.code yX1_within cX1_within 6 (some .boolean), Cond.methodLink RX1 72 yX1_fails, Cond.instanceMethod yX1_fails, Cond.selects RX1 yX1_fails yX1_fails, Cond.code yX1_fails cX1_fails 3 (some .boolean), Cond.fieldLink RX1 31 "BlockJournalModel" "thrown" "I", Cond.methodLink RL 62 yX1_thrown, Cond.instanceMethod yX1_thrown, Cond.selects RX1 yX1_thrown yX1_thrown, Cond.code yX1_thrown cX1_thrown 1 (some .int), Cond.methodLink RL 65 yL_put]
def wsL_law0_r4 : List Cond := [Cond.static yL_put, Cond.codeWith yL_put cL_put 4 (some .int) [(0, 9, 12, 13), (0, 9, 15, 15)], Cond.methodLink RL 17 yX0_put, Cond.instanceMethod yX0_put, Cond.selects RX0 yX0_put yX0_put, Cond.code yX0_put cX0_put 3 (some .int), Cond.fieldLink RX0 64 "BlockJournal" "changes" "I", Cond.methodLink RX0 73 arraycopyName, Cond.native arraycopyName, Cond.static arraycopyName, Cond.initialized "java/lang/System", Cond.methodLink RX0 51 yX0_isTarget, Cond.static yX0_isTarget, Cond.code yX0_isTarget cX0_isTarget 1 (some .boolean), Cond.methodLink RX0 57 yX0_placeOf, Cond.instanceMethod yX0_placeOf, Cond.selects RX0 yX0_placeOf yX0_placeOf, Cond.code yX0_placeOf cX0_placeOf 3 (some .int), Cond.methodLink RX0 60 yX0_isChangeOf, Cond.instanceMethod yX0_isChangeOf, Cond.selects RX0 yX0_isChangeOf yX0_isChangeOf, Cond.code yX0_isChangeOf cX0_isChangeOf 3 (some .boolean), Cond.methodLink RX0 69 yX0_openPlace, Cond.instanceMethod yX0_openPlace]
def wsL_law0_r5 : List Cond := [Cond.selects RX0 yX0_openPlace yX0_openPlace, Cond.code yX0_openPlace cX0_openPlace 4 none, Cond.methodLink RX0 79 yJ7_fill_53178, Cond.static yJ7_fill_53178, Cond.initialized RJ7, Cond.code yJ7_fill_53178 cJ7_fill_53178 4 none, Cond.methodLink RL 68 yX1_put, Cond.instanceMethod yX1_put, Cond.selects RX1 yX1_put yX1_put, Cond.code yX1_put cX1_put 4 (some .int), Cond.constantLong RX1 62 (25), Cond.constantLong RX1 64 (95), Cond.fieldLink RX1 81 "BlockJournalModel" "changes" "I", Cond.methodLink RX1 84 yX1_find, Cond.instanceMethod yX1_find, Cond.selects RX1 yX1_find yX1_find, Cond.code yX1_find cX1_find 3 (some .int), Cond.methodLink RL 69 yX0_drop, Cond.instanceMethod yX0_drop, Cond.selects RX0 yX0_drop yX0_drop, Cond.code yX0_drop cX0_drop 2 (some .int), Cond.methodLink RL 72 yX1_drop, Cond.instanceMethod yX1_drop, Cond.selects RX1 yX1_drop yX1_drop]
def wsL_law0_r6 : List Cond := [Cond.code yX1_drop cX1_drop 2 (some .int), Cond.methodLink RL 73 yL_commit, Cond.static yL_commit, Cond.codeWith yL_commit cL_commit 3 (some .int) [(0, 15, 18, 15)], Cond.methodLink RL 21 yX0_commit, Cond.instanceMethod yX0_commit, Cond.selects RX0 yX0_commit yX0_commit, Cond.code yX0_commit cX0_commit 3 (some .boolean), Cond.fieldLink RX0 85 "BlockJournal" "off" "Z", Cond.methodLink RX0 91 yX0_headWord, Cond.instanceMethod yX0_headWord, Cond.selects RX0 yX0_headWord yX0_headWord, Cond.code yX0_headWord cX0_headWord 4 (some .int), Cond.methodLink RX0 94 yX0_write, Cond.instanceMethod yX0_write, Cond.selects RX0 yX0_write yX0_write, Cond.code yX0_write cX0_write 4 none, Cond.fieldLink RX0 132 "BlockJournal" "writesDone" "J", Cond.methodLink RX0 98 yX0_writeFullHead, Cond.instanceMethod yX0_writeFullHead, Cond.selects RX0 yX0_writeFullHead yX0_writeFullHead, Cond.code yX0_writeFullHead cX0_writeFullHead 3 none, Cond.methodLink RX0 138 yX0_setWord, Cond.instanceMethod yX0_setWord]
def wsL_law0_r7 : List Cond := [Cond.selects RX0 yX0_setWord yX0_setWord, Cond.code yX0_setWord cX0_setWord 4 none, Cond.methodLink RX0 141 yX0_payloadCheck, Cond.instanceMethod yX0_payloadCheck, Cond.selects RX0 yX0_payloadCheck yX0_payloadCheck, Cond.code yX0_payloadCheck cX0_payloadCheck 5 (some .int), Cond.methodLink RX0 102 yX0_writeEmptyHead, Cond.instanceMethod yX0_writeEmptyHead, Cond.selects RX0 yX0_writeEmptyHead yX0_writeEmptyHead, Cond.code yX0_writeEmptyHead cX0_writeEmptyHead 2 none, Cond.methodLink RL 76 yX1_commit, Cond.instanceMethod yX1_commit, Cond.selects RX1 yX1_commit yX1_commit, Cond.code yX1_commit cX1_commit 5 (some .boolean), Cond.fieldLink RX1 35 "BlockJournalModel" "off" "Z", Cond.methodLink RX1 48 yX1_number, Cond.instanceMethod yX1_number, Cond.selects RX1 yX1_number yX1_number, Cond.code yX1_number cX1_number 6 (some .long), Cond.constantLong RX1 42 (256), Cond.methodLink RX1 98 yX1_commits, Cond.instanceMethod yX1_commits, Cond.selects RX1 yX1_commits yX1_commits, Cond.code yX1_commits cX1_commits 7 (some .boolean)]
def wsL_law0_r8 : List Cond := [Cond.methodLink RX1 90 yX1_headed, Cond.instanceMethod yX1_headed, Cond.selects RX1 yX1_headed yX1_headed, Cond.code yX1_headed cX1_headed 7 none, Cond.methodLink RX1 66 yX1_check, Cond.instanceMethod yX1_check, Cond.selects RX1 yX1_check yX1_check, Cond.code yX1_check cX1_check 9 (some .long), Cond.constantLong RX1 44 (4294967295), Cond.constantLong RX1 46 (517762881), Cond.methodLink RX1 87 yX1_ranked, Cond.instanceMethod yX1_ranked, Cond.selects RX1 yX1_ranked yX1_ranked, Cond.code yX1_ranked cX1_ranked 5 (some .int), Cond.methodLink RX1 94 yX1_writes, Cond.instanceMethod yX1_writes, Cond.selects RX1 yX1_writes yX1_writes, Cond.code yX1_writes cX1_writes 3 (some .boolean), Cond.fieldLink RX1 39 "BlockJournalModel" "done" "J", Cond.methodLink RL 77 yL_recover, Cond.static yL_recover, Cond.codeWith yL_recover cL_recover 3 (some .int) [(0, 8, 11, 15)], Cond.methodLink RL 25 yX0_recover, Cond.instanceMethod yX0_recover]
def wsL_law0_r9 : List Cond := [Cond.selects RX0 yX0_recover yX0_recover, Cond.code yX0_recover cX0_recover 3 (some .int), Cond.methodLink RX0 107 yX0_headIsRight, Cond.instanceMethod yX0_headIsRight, Cond.selects RX0 yX0_headIsRight yX0_headIsRight, Cond.code yX0_headIsRight cX0_headIsRight 2 (some .boolean), Cond.methodLink RX0 111 yX0_headCount, Cond.instanceMethod yX0_headCount, Cond.selects RX0 yX0_headCount yX0_headCount, Cond.code yX0_headCount cX0_headCount 1 (some .int), Cond.methodLink RX0 144 yX0_targetsAreRight, Cond.instanceMethod yX0_targetsAreRight, Cond.selects RX0 yX0_targetsAreRight yX0_targetsAreRight, Cond.code yX0_targetsAreRight cX0_targetsAreRight 5 (some .boolean), Cond.methodLink RX0 115 yX0_headTarget, Cond.instanceMethod yX0_headTarget, Cond.selects RX0 yX0_headTarget yX0_headTarget, Cond.code yX0_headTarget cX0_headTarget 3 (some .int), Cond.methodLink RL 79 yX1_recover, Cond.instanceMethod yX1_recover, Cond.selects RX1 yX1_recover yX1_recover, Cond.code yX1_recover cX1_recover 6 (some .int), Cond.methodLink RX1 102 yX1_isRight, Cond.instanceMethod yX1_isRight]
def wsL_law0_r10 : List Cond := [Cond.selects RX1 yX1_isRight yX1_isRight, Cond.code yX1_isRight cX1_isRight 4 (some .boolean), Cond.constantLong RX1 52 (24), Cond.methodLink RX1 58 yX1_target, Cond.instanceMethod yX1_target, Cond.selects RX1 yX1_target yX1_target, Cond.code yX1_target cX1_target 2 (some .int), Cond.methodLink RL 80 yL_lose, Cond.static yL_lose, Cond.codeWith yL_lose cL_lose 3 (some .int) [(0, 5, 8, 13), (0, 5, 11, 15)], Cond.methodLink RL 29 yX0_lose, Cond.instanceMethod yX0_lose, Cond.selects RX0 yX0_lose yX0_lose, Cond.code yX0_lose cX0_lose 2 none, Cond.methodLink RL 83 yX1_lose, Cond.instanceMethod yX1_lose, Cond.selects RX1 yX1_lose yX1_lose, Cond.code yX1_lose cX1_lose 2 none, Cond.methodLink RL 84 yX0_power, Cond.instanceMethod yX0_power, Cond.selects RX0 yX0_power yX0_power, Cond.code yX0_power cX0_power 2 (some .boolean), Cond.methodLink RL 87 yX1_power, Cond.instanceMethod yX1_power]
def wsL_law0_r11 : List Cond := [Cond.selects RX1 yX1_power yX1_power, Cond.code yX1_power cX1_power 2 (some .boolean), Cond.methodLink RL 88 yL_spoil, Cond.static yL_spoil, Cond.codeWith yL_spoil cL_spoil 6 (some .int) [(0, 12, 15, 13)], Cond.methodLink RL 33 yX0_spoil, Cond.instanceMethod yX0_spoil, Cond.selects RX0 yX0_spoil yX0_spoil, Cond.code yX0_spoil cX0_spoil 5 (some .int), Cond.methodLink RX0 120 yX0_isInStore, Cond.static yX0_isInStore, Cond.code yX0_isInStore cX0_isInStore 2 (some .boolean), Cond.methodLink RL 91 yX1_spoil, Cond.instanceMethod yX1_spoil, Cond.selects RX1 yX1_spoil yX1_spoil, Cond.code yX1_spoil cX1_spoil 5 (some .int), Cond.constantLong RX1 106 (63), Cond.methodLink RL 92 yL_at, Cond.static yL_at, Cond.codeWith yL_at cL_at 5 (some .int) [(0, 10, 13, 13)], Cond.methodLink RL 37 yX0_at, Cond.instanceMethod yX0_at, Cond.selects RX0 yX0_at yX0_at, Cond.code yX0_at cX0_at 3 (some .int)]
def wsL_law0_r12 : List Cond := [Cond.methodLink RL 95 yX1_at, Cond.instanceMethod yX1_at, Cond.selects RX1 yX1_at yX1_at, Cond.code yX1_at cX1_at 3 (some .int), Cond.methodLink RL 96 yL_change, Cond.static yL_change, Cond.codeWith yL_change cL_change 4 (some .int) [(0, 9, 12, 44)], Cond.classLink RL 44 "java/util/NoSuchElementException", Cond.methodLink RL 41 yX0_change, Cond.instanceMethod yX0_change, Cond.selects RX0 yX0_change yX0_change, Cond.code yX0_change cX0_change 2 (some .int), Cond.classLink RX0 125 "java/util/NoSuchElementException", Cond.initialized "java/util/NoSuchElementException", Cond.methodLink RL 98 yX1_change, Cond.instanceMethod yX1_change, Cond.selects RX1 yX1_change yX1_change, Cond.code yX1_change cX1_change 2 (some .int), Cond.methodLink RL 99 yL_look, Cond.static yL_look, Cond.codeWith yL_look cL_look 4 (some .int) [(0, 8, 11, 44)], Cond.methodLink RL 46 yX0_look, Cond.instanceMethod yX0_look, Cond.selects RX0 yX0_look yX0_look]
def wsL_law0_r13 : List Cond := [Cond.code yX0_look cX0_look 2 (some .long), Cond.constantLong RX0 130 (4294967295), Cond.methodLink RL 101 yX1_look, Cond.instanceMethod yX1_look, Cond.selects RX1 yX1_look yX1_look, Cond.code yX1_look cX1_look 2 (some .long), Cond.constantLong RX1 108 (6)]
def wsL_law0 : List Cond := (wsL_law0_r1 ++ (wsL_law0_r2 ++ (wsL_law0_r3 ++ (wsL_law0_r4 ++ (wsL_law0_r5 ++ (wsL_law0_r6 ++ (wsL_law0_r7 ++ (wsL_law0_r8 ++ (wsL_law0_r9 ++ (wsL_law0_r10 ++ (wsL_law0_r11 ++ (wsL_law0_r12 ++ wsL_law0_r13)))))))))))) ++ wsX00 ++ wsX10 ++ ([] : List Cond)
def wsL_law : List Cond := wsL_law0 ++ (vx_atS RX0 40 "java/lang/IllegalArgumentException" ["java/lang/RuntimeException", "java/lang/Exception"]).filter goodWord ++ (vx_atS RX0 50 "java/lang/IllegalStateException" ["java/lang/RuntimeException", "java/lang/Exception"]).filter goodWord ++ (bx_atN RX0 129).filter goodWord
set_option maxRecDepth 20000 in
theorem wsL_law_in0 : ∀ w ∈ wsL_law0, w ∈ lw_tbl := fun w h => (goodIn_p wsL_law0 [39, 42, 45, 332, 98, 376, 380, 384, 372, 189, 192, 197, 201, 206, 212, 389, 395, 85, 399, 219, 224, 228, 232, 236, 240, 244, 403, 407, 412, 416, 420, 426, 430, 251, 256, 260, 264, 268, 434, 438, 443, 275, 447, 89, 451, 283, 286, 455, 294, 460, 302, 464, 325, 468] (by decide +kernel) (by decide +kernel) w h).1
theorem wsL_law_x0 : ∀ w ∈ (vx_atS RX0 40 "java/lang/IllegalArgumentException" ["java/lang/RuntimeException", "java/lang/Exception"]).filter goodWord, w ∈ lw_tbl := by decide +kernel
theorem wsL_law_x1 : ∀ w ∈ (vx_atS RX0 50 "java/lang/IllegalStateException" ["java/lang/RuntimeException", "java/lang/Exception"]).filter goodWord, w ∈ lw_tbl := by decide +kernel
theorem wsL_law_x2 : ∀ w ∈ (bx_atN RX0 129).filter goodWord, w ∈ lw_tbl := by decide +kernel
theorem wsL_law_in : ∀ w ∈ wsL_law, w ∈ lw_tbl := fun w h => (List.mem_append.mp h).elim (fun h => (List.mem_append.mp h).elim (fun h => (List.mem_append.mp h).elim (fun h => wsL_law_in0 w h) (fun h => wsL_law_x0 w h)) (fun h => wsL_law_x1 w h)) (fun h => wsL_law_x2 w h)
theorem inlX0 : ∀ w ∈ wsX00, w ∈ wsL_law := fun _ h => List.mem_append_left _ (List.mem_append_left _ (List.mem_append_left _ (List.mem_append_left _ (List.mem_append_left _ (List.mem_append_right _ h)))))
theorem inX0 : ∀ w ∈ wsX00, w ∈ lw_tbl := fun w h => wsL_law_in w (inlX0 w h)
theorem inlX1 : ∀ w ∈ wsX10, w ∈ wsL_law := fun _ h => List.mem_append_left _ (List.mem_append_left _ (List.mem_append_left _ (List.mem_append_left _ (List.mem_append_right _ h))))
theorem inX1 : ∀ w ∈ wsX10, w ∈ lw_tbl := fun w h => wsL_law_in w (inlX1 w h)
theorem inJ0 : ∀ w ∈ wsJ00, w ∈ lw_tbl := by decide +kernel
theorem inJ10 : ∀ w ∈ wsJ100, w ∈ lw_tbl := by decide +kernel
theorem inJ7 : ∀ w ∈ wsJ70, w ∈ lw_tbl := by decide +kernel
set_option maxRecDepth 20000 in
theorem ggX0_init_X0_eightSteps : GoodIn wsX0_init wsX0_eightSteps := goodIn_r _ [15, 16] (by decide +kernel) (by decide +kernel)
set_option maxRecDepth 20000 in
theorem gX0_init_X0_eightSteps : GoodIn wsX0_init (va_wsS RX0 32 yX0_eightSteps wsX0_eightSteps) := goodIn_app (goodIn_of _ (by decide +kernel)) ggX0_init_X0_eightSteps
set_option maxRecDepth 20000 in
theorem ggX0_put_X0_isTarget : GoodIn wsX0_put wsX0_isTarget := goodIn_r _ [16] (by decide +kernel) (by decide +kernel)
set_option maxRecDepth 20000 in
theorem gX0_put_X0_isTarget : GoodIn wsX0_put (va_wsS RX0 51 yX0_isTarget wsX0_isTarget) := goodIn_app (goodIn_of _ (by decide +kernel)) ggX0_put_X0_isTarget
set_option maxRecDepth 20000 in
theorem ggX0_put_X0_placeOf : GoodIn wsX0_put wsX0_placeOf := goodIn_r _ [20, 5, 21, 34, 35, 36, 37, 38, 39, 40, 41, 42, 43, 44] (by decide +kernel) (by decide +kernel)
set_option maxRecDepth 20000 in
theorem gX0_put_X0_placeOf : GoodIn wsX0_put (wsV RX0 57 RX0 yX0_placeOf wsX0_placeOf) := goodIn_app (goodIn_of _ (by decide +kernel)) ggX0_put_X0_placeOf
set_option maxRecDepth 20000 in
theorem ggX0_put_X0_isChangeOf : GoodIn wsX0_put wsX0_isChangeOf := goodIn_r _ [25, 5, 21, 34, 35, 36, 37, 38, 39, 40, 41, 42, 43, 44] (by decide +kernel) (by decide +kernel)
set_option maxRecDepth 20000 in
theorem gX0_put_X0_isChangeOf : GoodIn wsX0_put (wsV RX0 60 RX0 yX0_isChangeOf wsX0_isChangeOf) := goodIn_app (goodIn_of _ (by decide +kernel)) ggX0_put_X0_isChangeOf
set_option maxRecDepth 20000 in
theorem ggX0_put_X0_openPlace : GoodIn wsX0_put wsX0_openPlace := goodIn_r _ [29, 5, 21, 8, 9, 10, 11, 7, 34, 35, 36, 37, 38, 39, 40, 41, 42, 43, 44] (by decide +kernel) (by decide +kernel)
set_option maxRecDepth 20000 in
theorem gX0_put_X0_openPlace : GoodIn wsX0_put (wsV RX0 69 RX0 yX0_openPlace wsX0_openPlace) := goodIn_app (goodIn_of _ (by decide +kernel)) ggX0_put_X0_openPlace
set_option maxRecDepth 20000 in
theorem ggX0_put_J7_fill_53178 : GoodIn wsX0_put wsJ7_fill_53178 := goodIn_r _ [33] (by decide +kernel) (by decide +kernel)
set_option maxRecDepth 20000 in
theorem gX0_put_J7_fill_53178 : GoodIn wsX0_put (va_wsS RX0 79 yJ7_fill_53178 wsJ7_fill_53178) := goodIn_app (goodIn_of _ (by decide +kernel)) ggX0_put_J7_fill_53178
set_option maxRecDepth 20000 in
theorem ggX0_commit_X0_headWord : GoodIn wsX0_commit wsX0_headWord := goodIn_r _ [11, 12, 45, 46, 47, 48, 49, 50, 51, 52, 53, 54, 55] (by decide +kernel) (by decide +kernel)
set_option maxRecDepth 20000 in
theorem gX0_commit_X0_headWord : GoodIn wsX0_commit (wsV RX0 91 RX0 yX0_headWord wsX0_headWord) := goodIn_app (goodIn_of _ (by decide +kernel)) ggX0_commit_X0_headWord
set_option maxRecDepth 20000 in
theorem ggX0_commit_X0_write : GoodIn wsX0_commit wsX0_write := goodIn_r _ [16, 17, 4, 12, 18, 19, 20, 21, 22, 45, 46, 47, 48, 49, 50, 51, 52, 53, 54, 55] (by decide +kernel) (by decide +kernel)
set_option maxRecDepth 20000 in
theorem gX0_commit_X0_write : GoodIn wsX0_commit (wsV RX0 94 RX0 yX0_write wsX0_write) := goodIn_app (goodIn_of _ (by decide +kernel)) ggX0_commit_X0_write
set_option maxRecDepth 20000 in
theorem ggX0_commit_X0_writeFullHead : GoodIn wsX0_commit wsX0_writeFullHead := goodIn_r _ [26, 27, 3, 6, 28, 29, 30, 31, 32, 33, 34, 10, 35, 36, 37, 38, 39, 40, 12, 13, 14, 15, 16, 17, 4, 18, 19, 20, 21, 22, 45, 46, 47, 48, 49, 50, 51, 52, 53, 54, 55] (by decide +kernel) (by decide +kernel)
set_option maxRecDepth 20000 in
theorem gX0_commit_X0_writeFullHead : GoodIn wsX0_commit (wsV RX0 98 RX0 yX0_writeFullHead wsX0_writeFullHead) := goodIn_app (goodIn_of _ (by decide +kernel)) ggX0_commit_X0_writeFullHead
set_option maxRecDepth 20000 in
theorem ggX0_commit_X0_writeEmptyHead : GoodIn wsX0_commit wsX0_writeEmptyHead := goodIn_r _ [44, 27, 28, 29, 30, 31, 32, 33, 34, 10, 35, 13, 14, 15, 16, 17, 4, 12, 18, 19, 20, 21, 22, 45, 46, 47, 48, 49, 50, 51, 52, 53, 54, 55] (by decide +kernel) (by decide +kernel)
set_option maxRecDepth 20000 in
theorem gX0_commit_X0_writeEmptyHead : GoodIn wsX0_commit (wsV RX0 102 RX0 yX0_writeEmptyHead wsX0_writeEmptyHead) := goodIn_app (goodIn_of _ (by decide +kernel)) ggX0_commit_X0_writeEmptyHead
set_option maxRecDepth 20000 in
theorem ggX0_recover_X0_headIsRight : GoodIn wsX0_recover wsX0_headIsRight := goodIn_r _ [9, 10, 11, 12, 8, 13, 4, 14, 15, 16, 17, 18, 19, 20, 21, 22, 23, 24, 25, 26, 27, 28, 29, 30, 31, 32, 33, 57, 58, 59, 60, 61, 62, 63, 64, 65, 66, 67] (by decide +kernel) (by decide +kernel)
set_option maxRecDepth 20000 in
theorem gX0_recover_X0_headIsRight : GoodIn wsX0_recover (wsV RX0 107 RX0 yX0_headIsRight wsX0_headIsRight) := goodIn_app (goodIn_of _ (by decide +kernel)) ggX0_recover_X0_headIsRight
set_option maxRecDepth 20000 in
theorem ggX0_recover_X0_headCount : GoodIn wsX0_recover wsX0_headCount := goodIn_r _ [13, 4, 57, 58, 59, 60, 61, 62, 63, 64, 65, 66, 67] (by decide +kernel) (by decide +kernel)
set_option maxRecDepth 20000 in
theorem gX0_recover_X0_headCount : GoodIn wsX0_recover (wsV RX0 111 RX0 yX0_headCount wsX0_headCount) := goodIn_app (goodIn_of _ (by decide +kernel)) ggX0_recover_X0_headCount
set_option maxRecDepth 20000 in
theorem ggX0_recover_X0_headTarget : GoodIn wsX0_recover wsX0_headTarget := goodIn_r _ [21, 4, 57, 58, 59, 60, 61, 62, 63, 64, 65, 66, 67] (by decide +kernel) (by decide +kernel)
set_option maxRecDepth 20000 in
theorem gX0_recover_X0_headTarget : GoodIn wsX0_recover (wsV RX0 115 RX0 yX0_headTarget wsX0_headTarget) := goodIn_app (goodIn_of _ (by decide +kernel)) ggX0_recover_X0_headTarget
set_option maxRecDepth 20000 in
theorem ggX0_recover_X0_write : GoodIn wsX0_recover wsX0_write := goodIn_r _ [37, 38, 3, 4, 39, 40, 41, 42, 43, 57, 58, 59, 60, 61, 62, 63, 64, 65, 66, 67] (by decide +kernel) (by decide +kernel)
set_option maxRecDepth 20000 in
theorem gX0_recover_X0_write : GoodIn wsX0_recover (wsV RX0 94 RX0 yX0_write wsX0_write) := goodIn_app (goodIn_of _ (by decide +kernel)) ggX0_recover_X0_write
set_option maxRecDepth 20000 in
theorem ggX0_recover_X0_headWord : GoodIn wsX0_recover wsX0_headWord := goodIn_r _ [28, 4, 57, 58, 59, 60, 61, 62, 63, 64, 65, 66, 67] (by decide +kernel) (by decide +kernel)
set_option maxRecDepth 20000 in
theorem gX0_recover_X0_headWord : GoodIn wsX0_recover (wsV RX0 91 RX0 yX0_headWord wsX0_headWord) := goodIn_app (goodIn_of _ (by decide +kernel)) ggX0_recover_X0_headWord
set_option maxRecDepth 20000 in
theorem ggX0_recover_X0_writeEmptyHead : GoodIn wsX0_recover wsX0_writeEmptyHead := goodIn_r _ [47, 48, 49, 50, 51, 52, 53, 54, 55, 8, 56, 34, 35, 36, 37, 38, 3, 4, 39, 40, 41, 42, 43, 57, 58, 59, 60, 61, 62, 63, 64, 65, 66, 67] (by decide +kernel) (by decide +kernel)
set_option maxRecDepth 20000 in
theorem gX0_recover_X0_writeEmptyHead : GoodIn wsX0_recover (wsV RX0 102 RX0 yX0_writeEmptyHead wsX0_writeEmptyHead) := goodIn_app (goodIn_of _ (by decide +kernel)) ggX0_recover_X0_writeEmptyHead
set_option maxRecDepth 20000 in
theorem ggX0_spoil_X0_isInStore : GoodIn wsX0_spoil wsX0_isInStore := goodIn_r _ [7] (by decide +kernel) (by decide +kernel)
set_option maxRecDepth 20000 in
theorem gX0_spoil_X0_isInStore : GoodIn wsX0_spoil (va_wsS RX0 120 yX0_isInStore wsX0_isInStore) := goodIn_app (goodIn_of _ (by decide +kernel)) ggX0_spoil_X0_isInStore
set_option maxRecDepth 20000 in
theorem ggX0_at_X0_isInStore : GoodIn wsX0_at wsX0_isInStore := goodIn_r _ [7] (by decide +kernel) (by decide +kernel)
set_option maxRecDepth 20000 in
theorem gX0_at_X0_isInStore : GoodIn wsX0_at (va_wsS RX0 120 yX0_isInStore wsX0_isInStore) := goodIn_app (goodIn_of _ (by decide +kernel)) ggX0_at_X0_isInStore
set_option maxRecDepth 20000 in
theorem ggX0_look_X0_headWord : GoodIn wsX0_look wsX0_headWord := goodIn_r _ [12, 13, 38, 39, 40, 41, 42, 43, 44, 45, 46, 47, 48] (by decide +kernel) (by decide +kernel)
set_option maxRecDepth 20000 in
theorem gX0_look_X0_headWord : GoodIn wsX0_look (wsV RX0 91 RX0 yX0_headWord wsX0_headWord) := goodIn_app (goodIn_of _ (by decide +kernel)) ggX0_look_X0_headWord
set_option maxRecDepth 20000 in
theorem ggX0_look_X0_headCount : GoodIn wsX0_look wsX0_headCount := goodIn_r _ [17, 13, 38, 39, 40, 41, 42, 43, 44, 45, 46, 47, 48] (by decide +kernel) (by decide +kernel)
set_option maxRecDepth 20000 in
theorem gX0_look_X0_headCount : GoodIn wsX0_look (wsV RX0 111 RX0 yX0_headCount wsX0_headCount) := goodIn_app (goodIn_of _ (by decide +kernel)) ggX0_look_X0_headCount
set_option maxRecDepth 20000 in
theorem ggX0_look_X0_headIsRight : GoodIn wsX0_look wsX0_headIsRight := goodIn_r _ [21, 14, 15, 16, 11, 17, 13, 22, 23, 24, 25, 26, 27, 28, 29, 30, 31, 32, 8, 9, 10, 12, 33, 34, 35, 36, 37, 38, 39, 40, 41, 42, 43, 44, 45, 46, 47, 48] (by decide +kernel) (by decide +kernel)
set_option maxRecDepth 20000 in
theorem gX0_look_X0_headIsRight : GoodIn wsX0_look (wsV RX0 107 RX0 yX0_headIsRight wsX0_headIsRight) := goodIn_app (goodIn_of _ (by decide +kernel)) ggX0_look_X0_headIsRight
set_option maxRecDepth 20000 in
theorem ggX0_writeFullHead_J7_fill_53178 : GoodIn wsX0_writeFullHead wsJ7_fill_53178 := goodIn_r _ [7] (by decide +kernel) (by decide +kernel)
set_option maxRecDepth 20000 in
theorem gX0_writeFullHead_J7_fill_53178 : GoodIn wsX0_writeFullHead (va_wsS RX0 79 yJ7_fill_53178 wsJ7_fill_53178) := goodIn_app (goodIn_of _ (by decide +kernel)) ggX0_writeFullHead_J7_fill_53178
set_option maxRecDepth 20000 in
theorem ggX0_writeFullHead_X0_setWord : GoodIn wsX0_writeFullHead wsX0_setWord := goodIn_r _ [12, 1, 30, 31, 32, 33, 34, 35, 36, 37, 38, 39, 40] (by decide +kernel) (by decide +kernel)
set_option maxRecDepth 20000 in
theorem gX0_writeFullHead_X0_setWord : GoodIn wsX0_writeFullHead (wsV RX0 138 RX0 yX0_setWord wsX0_setWord) := goodIn_app (goodIn_of _ (by decide +kernel)) ggX0_writeFullHead_X0_setWord
set_option maxRecDepth 20000 in
theorem ggX0_writeFullHead_X0_payloadCheck : GoodIn wsX0_writeFullHead wsX0_payloadCheck := goodIn_r _ [16, 17, 18, 30, 31, 32, 33, 34, 35, 36, 37, 38, 39, 40] (by decide +kernel) (by decide +kernel)
set_option maxRecDepth 20000 in
theorem gX0_writeFullHead_X0_payloadCheck : GoodIn wsX0_writeFullHead (wsV RX0 141 RX0 yX0_payloadCheck wsX0_payloadCheck) := goodIn_app (goodIn_of _ (by decide +kernel)) ggX0_writeFullHead_X0_payloadCheck
set_option maxRecDepth 20000 in
theorem ggX0_writeFullHead_X0_write : GoodIn wsX0_writeFullHead wsX0_write := goodIn_r _ [22, 23, 24, 18, 25, 26, 27, 28, 29, 30, 31, 32, 33, 34, 35, 36, 37, 38, 39, 40] (by decide +kernel) (by decide +kernel)
set_option maxRecDepth 20000 in
theorem gX0_writeFullHead_X0_write : GoodIn wsX0_writeFullHead (wsV RX0 94 RX0 yX0_write wsX0_write) := goodIn_app (goodIn_of _ (by decide +kernel)) ggX0_writeFullHead_X0_write
set_option maxRecDepth 20000 in
theorem ggX0_writeEmptyHead_J7_fill_53178 : GoodIn wsX0_writeEmptyHead wsJ7_fill_53178 := goodIn_r _ [5] (by decide +kernel) (by decide +kernel)
set_option maxRecDepth 20000 in
theorem gX0_writeEmptyHead_J7_fill_53178 : GoodIn wsX0_writeEmptyHead (va_wsS RX0 79 yJ7_fill_53178 wsJ7_fill_53178) := goodIn_app (goodIn_of _ (by decide +kernel)) ggX0_writeEmptyHead_J7_fill_53178
set_option maxRecDepth 20000 in
theorem ggX0_writeEmptyHead_X0_setWord : GoodIn wsX0_writeEmptyHead wsX0_setWord := goodIn_r _ [10, 1, 23, 24, 25, 26, 27, 28, 29, 30, 31, 32, 33] (by decide +kernel) (by decide +kernel)
set_option maxRecDepth 20000 in
theorem gX0_writeEmptyHead_X0_setWord : GoodIn wsX0_writeEmptyHead (wsV RX0 138 RX0 yX0_setWord wsX0_setWord) := goodIn_app (goodIn_of _ (by decide +kernel)) ggX0_writeEmptyHead_X0_setWord
set_option maxRecDepth 20000 in
theorem ggX0_writeEmptyHead_X0_write : GoodIn wsX0_writeEmptyHead wsX0_write := goodIn_r _ [14, 15, 16, 17, 18, 19, 20, 21, 22, 23, 24, 25, 26, 27, 28, 29, 30, 31, 32, 33] (by decide +kernel) (by decide +kernel)
set_option maxRecDepth 20000 in
theorem gX0_writeEmptyHead_X0_write : GoodIn wsX0_writeEmptyHead (wsV RX0 94 RX0 yX0_write wsX0_write) := goodIn_app (goodIn_of _ (by decide +kernel)) ggX0_writeEmptyHead_X0_write
set_option maxRecDepth 20000 in
theorem ggX0_headIsRight_X0_headCount : GoodIn wsX0_headIsRight wsX0_headCount := goodIn_r _ [5, 6, 27, 28, 29, 30, 31, 32, 33, 34, 35, 36, 37] (by decide +kernel) (by decide +kernel)
set_option maxRecDepth 20000 in
theorem gX0_headIsRight_X0_headCount : GoodIn wsX0_headIsRight (wsV RX0 111 RX0 yX0_headCount wsX0_headCount) := goodIn_app (goodIn_of _ (by decide +kernel)) ggX0_headIsRight_X0_headCount
set_option maxRecDepth 20000 in
theorem ggX0_headIsRight_X0_targetsAreRight : GoodIn wsX0_headIsRight wsX0_targetsAreRight := goodIn_r _ [10, 11, 12, 13, 4, 14, 6, 15, 16, 17, 27, 28, 29, 30, 31, 32, 33, 34, 35, 36, 37] (by decide +kernel) (by decide +kernel)
set_option maxRecDepth 20000 in
theorem gX0_headIsRight_X0_targetsAreRight : GoodIn wsX0_headIsRight (wsV RX0 144 RX0 yX0_targetsAreRight wsX0_targetsAreRight) := goodIn_app (goodIn_of _ (by decide +kernel)) ggX0_headIsRight_X0_targetsAreRight
set_option maxRecDepth 20000 in
theorem ggX0_headIsRight_X0_headWord : GoodIn wsX0_headIsRight wsX0_headWord := goodIn_r _ [21, 6, 27, 28, 29, 30, 31, 32, 33, 34, 35, 36, 37] (by decide +kernel) (by decide +kernel)
set_option maxRecDepth 20000 in
theorem gX0_headIsRight_X0_headWord : GoodIn wsX0_headIsRight (wsV RX0 91 RX0 yX0_headWord wsX0_headWord) := goodIn_app (goodIn_of _ (by decide +kernel)) ggX0_headIsRight_X0_headWord
set_option maxRecDepth 20000 in
theorem ggX0_headIsRight_X0_payloadCheck : GoodIn wsX0_headIsRight wsX0_payloadCheck := goodIn_r _ [25, 26, 6, 27, 28, 29, 30, 31, 32, 33, 34, 35, 36, 37] (by decide +kernel) (by decide +kernel)
set_option maxRecDepth 20000 in
theorem gX0_headIsRight_X0_payloadCheck : GoodIn wsX0_headIsRight (wsV RX0 141 RX0 yX0_payloadCheck wsX0_payloadCheck) := goodIn_app (goodIn_of _ (by decide +kernel)) ggX0_headIsRight_X0_payloadCheck
set_option maxRecDepth 20000 in
theorem ggX0_targetsAreRight_X0_headTarget : GoodIn wsX0_targetsAreRight wsX0_headTarget := goodIn_r _ [5, 6, 10, 11, 12, 13, 14, 15, 16, 17, 18, 19, 20] (by decide +kernel) (by decide +kernel)
set_option maxRecDepth 20000 in
theorem gX0_targetsAreRight_X0_headTarget : GoodIn wsX0_targetsAreRight (wsV RX0 115 RX0 yX0_headTarget wsX0_headTarget) := goodIn_app (goodIn_of _ (by decide +kernel)) ggX0_targetsAreRight_X0_headTarget
set_option maxRecDepth 20000 in
theorem ggX0_targetsAreRight_X0_isTarget : GoodIn wsX0_targetsAreRight wsX0_isTarget := goodIn_r _ [9] (by decide +kernel) (by decide +kernel)
set_option maxRecDepth 20000 in
theorem gX0_targetsAreRight_X0_isTarget : GoodIn wsX0_targetsAreRight (va_wsS RX0 51 yX0_isTarget wsX0_isTarget) := goodIn_app (goodIn_of _ (by decide +kernel)) ggX0_targetsAreRight_X0_isTarget
set_option maxRecDepth 20000 in
theorem ggX1_target_X1_number : GoodIn wsX1_target wsX1_number := goodIn_r _ [5, 6, 7, 8, 9, 10, 11, 12, 13, 14, 15, 16, 17, 18] (by decide +kernel) (by decide +kernel)
set_option maxRecDepth 20000 in
theorem gX1_target_X1_number : GoodIn wsX1_target (wsV RX1 48 RX1 yX1_number wsX1_number) := goodIn_app (goodIn_of _ (by decide +kernel)) ggX1_target_X1_number
set_option maxRecDepth 20000 in
theorem ggX1_isRight_X1_within : GoodIn wsX1_isRight wsX1_within := goodIn_r _ [8] (by decide +kernel) (by decide +kernel)
set_option maxRecDepth 20000 in
theorem gX1_isRight_X1_within : GoodIn wsX1_isRight (va_wsS RX1 54 yX1_within wsX1_within) := goodIn_app (goodIn_of _ (by decide +kernel)) ggX1_isRight_X1_within
set_option maxRecDepth 20000 in
theorem ggX1_isRight_X1_target : GoodIn wsX1_isRight wsX1_target := goodIn_r _ [12, 13, 14, 15, 7, 16, 17, 1, 24, 25, 26, 27, 28, 29, 30, 31, 32, 33, 34] (by decide +kernel) (by decide +kernel)
set_option maxRecDepth 20000 in
theorem gX1_isRight_X1_target : GoodIn wsX1_isRight (wsV RX1 58 RX1 yX1_target wsX1_target) := goodIn_app (goodIn_of _ (by decide +kernel)) ggX1_isRight_X1_target
set_option maxRecDepth 20000 in
theorem ggX1_isRight_X1_number : GoodIn wsX1_isRight wsX1_number := goodIn_r _ [16, 17, 1, 24, 25, 26, 27, 28, 29, 30, 31, 32, 33, 34] (by decide +kernel) (by decide +kernel)
set_option maxRecDepth 20000 in
theorem gX1_isRight_X1_number : GoodIn wsX1_isRight (wsV RX1 48 RX1 yX1_number wsX1_number) := goodIn_app (goodIn_of _ (by decide +kernel)) ggX1_isRight_X1_number
set_option maxRecDepth 20000 in
theorem ggX1_isRight_X1_check : GoodIn wsX1_isRight wsX1_check := goodIn_r _ [21, 22, 1, 23, 24, 25, 26, 27, 28, 29, 30, 31, 32, 33, 34] (by decide +kernel) (by decide +kernel)
set_option maxRecDepth 20000 in
theorem gX1_isRight_X1_check : GoodIn wsX1_isRight (wsV RX1 66 RX1 yX1_check wsX1_check) := goodIn_app (goodIn_of _ (by decide +kernel)) ggX1_isRight_X1_check
set_option maxRecDepth 20000 in
theorem ggX1_feed_X1_within : GoodIn wsX1_feed wsX1_within := goodIn_r _ [8] (by decide +kernel) (by decide +kernel)
set_option maxRecDepth 20000 in
theorem gX1_feed_X1_within : GoodIn wsX1_feed (va_wsS RX1 54 yX1_within wsX1_within) := goodIn_app (goodIn_of _ (by decide +kernel)) ggX1_feed_X1_within
set_option maxRecDepth 20000 in
theorem ggX1_feed_X1_fails : GoodIn wsX1_feed wsX1_fails := goodIn_r _ [12, 13, 14, 15, 16, 17, 18, 19, 20, 21, 22, 23, 24] (by decide +kernel) (by decide +kernel)
set_option maxRecDepth 20000 in
theorem gX1_feed_X1_fails : GoodIn wsX1_feed (wsV RX1 72 RX1 yX1_fails wsX1_fails) := goodIn_app (goodIn_of _ (by decide +kernel)) ggX1_feed_X1_fails
set_option maxRecDepth 20000 in
theorem ggX1_put_X1_within : GoodIn wsX1_put wsX1_within := goodIn_r _ [11] (by decide +kernel) (by decide +kernel)
set_option maxRecDepth 20000 in
theorem gX1_put_X1_within : GoodIn wsX1_put (va_wsS RX1 54 yX1_within wsX1_within) := goodIn_app (goodIn_of _ (by decide +kernel)) ggX1_put_X1_within
set_option maxRecDepth 20000 in
theorem ggX1_put_X1_fails : GoodIn wsX1_put wsX1_fails := goodIn_r _ [15, 16, 21, 22, 23, 24, 25, 26, 27, 28, 29, 30, 31] (by decide +kernel) (by decide +kernel)
set_option maxRecDepth 20000 in
theorem gX1_put_X1_fails : GoodIn wsX1_put (wsV RX1 72 RX1 yX1_fails wsX1_fails) := goodIn_app (goodIn_of _ (by decide +kernel)) ggX1_put_X1_fails
set_option maxRecDepth 20000 in
theorem ggX1_put_X1_find : GoodIn wsX1_put wsX1_find := goodIn_r _ [20, 3, 4, 21, 22, 23, 24, 25, 26, 27, 28, 29, 30, 31] (by decide +kernel) (by decide +kernel)
set_option maxRecDepth 20000 in
theorem gX1_put_X1_find : GoodIn wsX1_put (wsV RX1 84 RX1 yX1_find wsX1_find) := goodIn_app (goodIn_of _ (by decide +kernel)) ggX1_put_X1_find
set_option maxRecDepth 20000 in
theorem ggX1_headed_X1_check : GoodIn wsX1_headed wsX1_check := goodIn_r _ [8, 9, 10, 11, 17, 18, 19, 20, 21, 22, 23, 24, 25, 26, 27] (by decide +kernel) (by decide +kernel)
set_option maxRecDepth 20000 in
theorem gX1_headed_X1_check : GoodIn wsX1_headed (wsV RX1 66 RX1 yX1_check wsX1_check) := goodIn_app (goodIn_of _ (by decide +kernel)) ggX1_headed_X1_check
set_option maxRecDepth 20000 in
theorem ggX1_headed_X1_ranked : GoodIn wsX1_headed wsX1_ranked := goodIn_r _ [15, 16, 3, 17, 18, 19, 20, 21, 22, 23, 24, 25, 26, 27] (by decide +kernel) (by decide +kernel)
set_option maxRecDepth 20000 in
theorem gX1_headed_X1_ranked : GoodIn wsX1_headed (wsV RX1 87 RX1 yX1_ranked wsX1_ranked) := goodIn_app (goodIn_of _ (by decide +kernel)) ggX1_headed_X1_ranked
set_option maxRecDepth 20000 in
theorem ggX1_commits_X1_headed : GoodIn wsX1_commits wsX1_headed := goodIn_r _ [8, 1, 9, 3, 10, 11, 12, 7, 13, 14, 15, 16, 17, 18, 19, 20, 21, 29, 30, 31, 32, 33, 34, 35, 36, 37, 38, 39] (by decide +kernel) (by decide +kernel)
set_option maxRecDepth 20000 in
theorem gX1_commits_X1_headed : GoodIn wsX1_commits (wsV RX1 90 RX1 yX1_headed wsX1_headed) := goodIn_app (goodIn_of _ (by decide +kernel)) ggX1_commits_X1_headed
set_option maxRecDepth 20000 in
theorem ggX1_commits_X1_writes : GoodIn wsX1_commits wsX1_writes := goodIn_r _ [25, 26, 27, 28, 15, 1, 29, 30, 31, 32, 33, 34, 35, 36, 37, 38, 39] (by decide +kernel) (by decide +kernel)
set_option maxRecDepth 20000 in
theorem gX1_commits_X1_writes : GoodIn wsX1_commits (wsV RX1 94 RX1 yX1_writes wsX1_writes) := goodIn_app (goodIn_of _ (by decide +kernel)) ggX1_commits_X1_writes
set_option maxRecDepth 20000 in
theorem ggX1_commits_X1_ranked : GoodIn wsX1_commits wsX1_ranked := goodIn_r _ [20, 21, 3, 29, 30, 31, 32, 33, 34, 35, 36, 37, 38, 39] (by decide +kernel) (by decide +kernel)
set_option maxRecDepth 20000 in
theorem gX1_commits_X1_ranked : GoodIn wsX1_commits (wsV RX1 87 RX1 yX1_ranked wsX1_ranked) := goodIn_app (goodIn_of _ (by decide +kernel)) ggX1_commits_X1_ranked
set_option maxRecDepth 20000 in
theorem ggX1_commit_X1_fails : GoodIn wsX1_commit wsX1_fails := goodIn_r _ [7, 8, 43, 44, 45, 46, 47, 48, 49, 50, 51, 52, 53] (by decide +kernel) (by decide +kernel)
set_option maxRecDepth 20000 in
theorem gX1_commit_X1_fails : GoodIn wsX1_commit (wsV RX1 72 RX1 yX1_fails wsX1_fails) := goodIn_app (goodIn_of _ (by decide +kernel)) ggX1_commit_X1_fails
set_option maxRecDepth 20000 in
theorem ggX1_commit_X1_number : GoodIn wsX1_commit wsX1_number := goodIn_r _ [12, 13, 14, 43, 44, 45, 46, 47, 48, 49, 50, 51, 52, 53] (by decide +kernel) (by decide +kernel)
set_option maxRecDepth 20000 in
theorem gX1_commit_X1_number : GoodIn wsX1_commit (wsV RX1 48 RX1 yX1_number wsX1_number) := goodIn_app (goodIn_of _ (by decide +kernel)) ggX1_commit_X1_number
set_option maxRecDepth 20000 in
theorem ggX1_commit_X1_commits : GoodIn wsX1_commit wsX1_commits := goodIn_r _ [18, 19, 20, 21, 22, 23, 24, 6, 25, 26, 27, 28, 29, 30, 31, 14, 32, 33, 34, 35, 36, 1, 37, 38, 39, 40, 2, 41, 42, 43, 44, 45, 46, 47, 48, 49, 50, 51, 52, 53] (by decide +kernel) (by decide +kernel)
set_option maxRecDepth 20000 in
theorem gX1_commit_X1_commits : GoodIn wsX1_commit (wsV RX1 98 RX1 yX1_commits wsX1_commits) := goodIn_app (goodIn_of _ (by decide +kernel)) ggX1_commit_X1_commits
set_option maxRecDepth 20000 in
theorem ggX1_recover_X1_fails : GoodIn wsX1_recover wsX1_fails := goodIn_r _ [8, 9, 52, 53, 54, 55, 56, 57, 58, 59, 60, 61, 62] (by decide +kernel) (by decide +kernel)
set_option maxRecDepth 20000 in
theorem gX1_recover_X1_fails : GoodIn wsX1_recover (wsV RX1 72 RX1 yX1_fails wsX1_fails) := goodIn_app (goodIn_of _ (by decide +kernel)) ggX1_recover_X1_fails
set_option maxRecDepth 20000 in
theorem ggX1_recover_X1_isRight : GoodIn wsX1_recover wsX1_isRight := goodIn_r _ [13, 2, 14, 15, 16, 17, 18, 7, 19, 20, 21, 22, 23, 24, 25, 26, 27, 28, 29, 30, 31, 32, 33, 34, 52, 53, 54, 55, 56, 57, 58, 59, 60, 61, 62] (by decide +kernel) (by decide +kernel)
set_option maxRecDepth 20000 in
theorem gX1_recover_X1_isRight : GoodIn wsX1_recover (wsV RX1 102 RX1 yX1_isRight wsX1_isRight) := goodIn_app (goodIn_of _ (by decide +kernel)) ggX1_recover_X1_isRight
set_option maxRecDepth 20000 in
theorem ggX1_recover_X1_number : GoodIn wsX1_recover wsX1_number := goodIn_r _ [27, 28, 2, 52, 53, 54, 55, 56, 57, 58, 59, 60, 61, 62] (by decide +kernel) (by decide +kernel)
set_option maxRecDepth 20000 in
theorem gX1_recover_X1_number : GoodIn wsX1_recover (wsV RX1 48 RX1 yX1_number wsX1_number) := goodIn_app (goodIn_of _ (by decide +kernel)) ggX1_recover_X1_number
set_option maxRecDepth 20000 in
theorem ggX1_recover_X1_target : GoodIn wsX1_recover wsX1_target := goodIn_r _ [23, 24, 25, 26, 7, 27, 28, 2, 52, 53, 54, 55, 56, 57, 58, 59, 60, 61, 62] (by decide +kernel) (by decide +kernel)
set_option maxRecDepth 20000 in
theorem gX1_recover_X1_target : GoodIn wsX1_recover (wsV RX1 58 RX1 yX1_target wsX1_target) := goodIn_app (goodIn_of _ (by decide +kernel)) ggX1_recover_X1_target
set_option maxRecDepth 20000 in
theorem ggX1_recover_X1_writes : GoodIn wsX1_recover wsX1_writes := goodIn_r _ [38, 1, 39, 40, 2, 3, 52, 53, 54, 55, 56, 57, 58, 59, 60, 61, 62] (by decide +kernel) (by decide +kernel)
set_option maxRecDepth 20000 in
theorem gX1_recover_X1_writes : GoodIn wsX1_recover (wsV RX1 94 RX1 yX1_writes wsX1_writes) := goodIn_app (goodIn_of _ (by decide +kernel)) ggX1_recover_X1_writes
set_option maxRecDepth 20000 in
theorem ggX1_recover_X1_headed : GoodIn wsX1_recover wsX1_headed := goodIn_r _ [44, 3, 45, 46, 29, 30, 31, 7, 32, 33, 2, 34, 47, 48, 49, 50, 51, 52, 53, 54, 55, 56, 57, 58, 59, 60, 61, 62] (by decide +kernel) (by decide +kernel)
set_option maxRecDepth 20000 in
theorem gX1_recover_X1_headed : GoodIn wsX1_recover (wsV RX1 90 RX1 yX1_headed wsX1_headed) := goodIn_app (goodIn_of _ (by decide +kernel)) ggX1_recover_X1_headed
set_option maxRecDepth 20000 in
theorem ggX1_lose_X1_fails : GoodIn wsX1_lose wsX1_fails := goodIn_r _ [7, 8, 9, 10, 11, 12, 13, 14, 15, 16, 17, 18, 19] (by decide +kernel) (by decide +kernel)
set_option maxRecDepth 20000 in
theorem gX1_lose_X1_fails : GoodIn wsX1_lose (wsV RX1 72 RX1 yX1_fails wsX1_fails) := goodIn_app (goodIn_of _ (by decide +kernel)) ggX1_lose_X1_fails
set_option maxRecDepth 20000 in
theorem ggX1_spoil_X1_within : GoodIn wsX1_spoil wsX1_within := goodIn_r _ [7] (by decide +kernel) (by decide +kernel)
set_option maxRecDepth 20000 in
theorem gX1_spoil_X1_within : GoodIn wsX1_spoil (va_wsS RX1 54 yX1_within wsX1_within) := goodIn_app (goodIn_of _ (by decide +kernel)) ggX1_spoil_X1_within
set_option maxRecDepth 20000 in
theorem ggX1_spoil_X1_fails : GoodIn wsX1_spoil wsX1_fails := goodIn_r _ [11, 12, 13, 14, 15, 16, 17, 18, 19, 20, 21, 22, 23] (by decide +kernel) (by decide +kernel)
set_option maxRecDepth 20000 in
theorem gX1_spoil_X1_fails : GoodIn wsX1_spoil (wsV RX1 72 RX1 yX1_fails wsX1_fails) := goodIn_app (goodIn_of _ (by decide +kernel)) ggX1_spoil_X1_fails
set_option maxRecDepth 20000 in
theorem ggX1_at_X1_within : GoodIn wsX1_at wsX1_within := goodIn_r _ [7] (by decide +kernel) (by decide +kernel)
set_option maxRecDepth 20000 in
theorem gX1_at_X1_within : GoodIn wsX1_at (va_wsS RX1 54 yX1_within wsX1_within) := goodIn_app (goodIn_of _ (by decide +kernel)) ggX1_at_X1_within
set_option maxRecDepth 20000 in
theorem ggX1_at_X1_fails : GoodIn wsX1_at wsX1_fails := goodIn_r _ [11, 12, 13, 14, 15, 16, 17, 18, 19, 20, 21, 22, 23] (by decide +kernel) (by decide +kernel)
set_option maxRecDepth 20000 in
theorem gX1_at_X1_fails : GoodIn wsX1_at (wsV RX1 72 RX1 yX1_fails wsX1_fails) := goodIn_app (goodIn_of _ (by decide +kernel)) ggX1_at_X1_fails
set_option maxRecDepth 20000 in
theorem ggX1_change_X1_within : GoodIn wsX1_change wsX1_within := goodIn_r _ [6] (by decide +kernel) (by decide +kernel)
set_option maxRecDepth 20000 in
theorem gX1_change_X1_within : GoodIn wsX1_change (va_wsS RX1 54 yX1_within wsX1_within) := goodIn_app (goodIn_of _ (by decide +kernel)) ggX1_change_X1_within
set_option maxRecDepth 20000 in
theorem ggX1_change_X1_fails : GoodIn wsX1_change wsX1_fails := goodIn_r _ [10, 11, 16, 17, 18, 19, 20, 21, 22, 23, 24, 25, 26] (by decide +kernel) (by decide +kernel)
set_option maxRecDepth 20000 in
theorem gX1_change_X1_fails : GoodIn wsX1_change (wsV RX1 72 RX1 yX1_fails wsX1_fails) := goodIn_app (goodIn_of _ (by decide +kernel)) ggX1_change_X1_fails
set_option maxRecDepth 20000 in
theorem ggX1_change_X1_ranked : GoodIn wsX1_change wsX1_ranked := goodIn_r _ [15, 1, 2, 16, 17, 18, 19, 20, 21, 22, 23, 24, 25, 26] (by decide +kernel) (by decide +kernel)
set_option maxRecDepth 20000 in
theorem gX1_change_X1_ranked : GoodIn wsX1_change (wsV RX1 87 RX1 yX1_ranked wsX1_ranked) := goodIn_app (goodIn_of _ (by decide +kernel)) ggX1_change_X1_ranked
set_option maxRecDepth 20000 in
theorem ggX1_look_X1_within : GoodIn wsX1_look wsX1_within := goodIn_r _ [10] (by decide +kernel) (by decide +kernel)
set_option maxRecDepth 20000 in
theorem gX1_look_X1_within : GoodIn wsX1_look (va_wsS RX1 54 yX1_within wsX1_within) := goodIn_app (goodIn_of _ (by decide +kernel)) ggX1_look_X1_within
set_option maxRecDepth 20000 in
theorem ggX1_look_X1_fails : GoodIn wsX1_look wsX1_fails := goodIn_r _ [14, 15, 38, 39, 40, 41, 42, 43, 44, 45, 46, 47, 48] (by decide +kernel) (by decide +kernel)
set_option maxRecDepth 20000 in
theorem gX1_look_X1_fails : GoodIn wsX1_look (wsV RX1 72 RX1 yX1_fails wsX1_fails) := goodIn_app (goodIn_of _ (by decide +kernel)) ggX1_look_X1_fails
set_option maxRecDepth 20000 in
theorem ggX1_look_X1_number : GoodIn wsX1_look wsX1_number := goodIn_r _ [19, 20, 2, 38, 39, 40, 41, 42, 43, 44, 45, 46, 47, 48] (by decide +kernel) (by decide +kernel)
set_option maxRecDepth 20000 in
theorem gX1_look_X1_number : GoodIn wsX1_look (wsV RX1 48 RX1 yX1_number wsX1_number) := goodIn_app (goodIn_of _ (by decide +kernel)) ggX1_look_X1_number
set_option maxRecDepth 20000 in
theorem ggX1_look_X1_isRight : GoodIn wsX1_look wsX1_isRight := goodIn_r _ [24, 2, 25, 26, 27, 7, 8, 9, 10, 28, 29, 30, 31, 16, 17, 18, 19, 20, 32, 33, 34, 35, 36, 37, 38, 39, 40, 41, 42, 43, 44, 45, 46, 47, 48] (by decide +kernel) (by decide +kernel)
set_option maxRecDepth 20000 in
theorem gX1_look_X1_isRight : GoodIn wsX1_look (wsV RX1 102 RX1 yX1_isRight wsX1_isRight) := goodIn_app (goodIn_of _ (by decide +kernel)) ggX1_look_X1_isRight
set_option maxRecDepth 20000 in
theorem ggL_feed_X0_feed : GoodIn wsL_feed wsX0_feed := goodIn_ca (goodIn_ca (goodIn_r _ [7, 8, 9, 10, 11, 12, 13, 14, 15, 16, 17, 18, 19, 20, 21, 22, 23, 24] (by decide +kernel) (by decide +kernel)) (goodIn_sub (fun _ h => List.mem_cons_of_mem _ (List.mem_append_left _ (List.mem_append_right _ h))) (by decide +kernel))) (goodIn_sub (fun _ h => List.mem_cons_of_mem _ (List.mem_append_right _ h)) (by decide +kernel))
set_option maxRecDepth 20000 in
theorem gL_feed_X0_feed : GoodIn wsL_feed (wsV RL 7 RX0 yX0_feed wsX0_feed) := goodIn_app (goodIn_of _ (by decide +kernel)) ggL_feed_X0_feed
set_option maxRecDepth 20000 in
theorem ggL_put_X0_put : GoodIn wsL_put wsX0_put := goodIn_ca (goodIn_ca (goodIn_r _ [7, 8, 9, 10, 11, 12, 13, 14, 15, 16, 17, 18, 19, 20, 21, 6, 22, 23, 24, 25, 26, 27, 28, 29, 30, 31, 32, 33, 34, 35, 36, 37, 38, 39, 40, 41, 42, 43, 44, 45, 46, 47, 48, 49, 50] (by decide +kernel) (by decide +kernel)) (goodIn_sub (fun _ h => List.mem_cons_of_mem _ (List.mem_append_left _ (List.mem_append_right _ h))) (by decide +kernel))) (goodIn_sub (fun _ h => List.mem_cons_of_mem _ (List.mem_append_right _ h)) (by decide +kernel))
set_option maxRecDepth 20000 in
theorem gL_put_X0_put : GoodIn wsL_put (wsV RL 17 RX0 yX0_put wsX0_put) := goodIn_app (goodIn_of _ (by decide +kernel)) ggL_put_X0_put
set_option maxRecDepth 20000 in
theorem ggL_commit_X0_commit : GoodIn wsL_commit wsX0_commit := goodIn_ca (goodIn_r _ [6, 7, 8, 9, 10, 11, 12, 13, 14, 15, 5, 16, 17, 18, 19, 20, 21, 22, 23, 24, 25, 26, 27, 28, 29, 30, 31, 32, 33, 34, 35, 36, 37, 38, 39, 40, 41, 42, 43, 44, 45, 46, 47, 48, 49, 50, 51, 52, 53, 54, 55, 56, 57, 58, 59, 60] (by decide +kernel) (by decide +kernel)) (goodIn_sub (fun _ h => List.mem_cons_of_mem _ (List.mem_append_right _ h)) (by decide +kernel))
set_option maxRecDepth 20000 in
theorem gL_commit_X0_commit : GoodIn wsL_commit (wsV RL 21 RX0 yX0_commit wsX0_commit) := goodIn_app (goodIn_of _ (by decide +kernel)) ggL_commit_X0_commit
set_option maxRecDepth 20000 in
theorem ggL_recover_X0_recover : GoodIn wsL_recover wsX0_recover := goodIn_ca (goodIn_r _ [6, 7, 8, 9, 10, 11, 12, 13, 5, 14, 15, 16, 17, 18, 19, 20, 21, 22, 23, 24, 25, 26, 27, 28, 29, 30, 31, 32, 33, 34, 35, 36, 37, 38, 39, 40, 41, 42, 43, 44, 45, 46, 47, 48, 49, 50, 51, 52, 53, 54, 55, 56, 57, 58, 59, 60, 61, 62, 63, 64, 65, 66, 67, 68, 69, 70, 71, 72] (by decide +kernel) (by decide +kernel)) (goodIn_sub (fun _ h => List.mem_cons_of_mem _ (List.mem_append_right _ h)) (by decide +kernel))
set_option maxRecDepth 20000 in
theorem gL_recover_X0_recover : GoodIn wsL_recover (wsV RL 25 RX0 yX0_recover wsX0_recover) := goodIn_app (goodIn_of _ (by decide +kernel)) ggL_recover_X0_recover
set_option maxRecDepth 20000 in
theorem ggL_lose_X0_lose : GoodIn wsL_lose wsX0_lose := goodIn_ca (goodIn_ca (goodIn_r _ [7, 8, 9, 10, 11, 12, 13, 14, 15, 16, 17, 18, 19, 20, 21, 22, 23, 24] (by decide +kernel) (by decide +kernel)) (goodIn_sub (fun _ h => List.mem_cons_of_mem _ (List.mem_append_left _ (List.mem_append_right _ h))) (by decide +kernel))) (goodIn_sub (fun _ h => List.mem_cons_of_mem _ (List.mem_append_right _ h)) (by decide +kernel))
set_option maxRecDepth 20000 in
theorem gL_lose_X0_lose : GoodIn wsL_lose (wsV RL 29 RX0 yX0_lose wsX0_lose) := goodIn_app (goodIn_of _ (by decide +kernel)) ggL_lose_X0_lose
set_option maxRecDepth 20000 in
theorem ggL_spoil_X0_spoil : GoodIn wsL_spoil wsX0_spoil := goodIn_ca (goodIn_r _ [6, 7, 8, 9, 10, 11, 5, 12, 13, 14, 15, 16, 17, 18, 19, 20, 21, 22, 23] (by decide +kernel) (by decide +kernel)) (goodIn_sub (fun _ h => List.mem_cons_of_mem _ (List.mem_append_right _ h)) (by decide +kernel))
set_option maxRecDepth 20000 in
theorem gL_spoil_X0_spoil : GoodIn wsL_spoil (wsV RL 33 RX0 yX0_spoil wsX0_spoil) := goodIn_app (goodIn_of _ (by decide +kernel)) ggL_spoil_X0_spoil
set_option maxRecDepth 20000 in
theorem ggL_at_X0_at : GoodIn wsL_at wsX0_at := goodIn_ca (goodIn_r _ [6, 7, 8, 9, 10, 11, 5, 12, 13, 14, 15, 16, 17, 18, 19, 20, 21, 22, 23] (by decide +kernel) (by decide +kernel)) (goodIn_sub (fun _ h => List.mem_cons_of_mem _ (List.mem_append_right _ h)) (by decide +kernel))
set_option maxRecDepth 20000 in
theorem gL_at_X0_at : GoodIn wsL_at (wsV RL 37 RX0 yX0_at wsX0_at) := goodIn_app (goodIn_of _ (by decide +kernel)) ggL_at_X0_at
set_option maxRecDepth 20000 in
theorem ggL_change_X0_change : GoodIn wsL_change wsX0_change := goodIn_ca (goodIn_r _ [6, 7, 8, 9, 10, 11, 12, 13, 14, 15, 16, 17, 18, 19, 20, 21] (by decide +kernel) (by decide +kernel)) (goodIn_sub (fun _ h => List.mem_cons_of_mem _ (List.mem_append_right _ h)) (by decide +kernel))
set_option maxRecDepth 20000 in
theorem gL_change_X0_change : GoodIn wsL_change (wsV RL 41 RX0 yX0_change wsX0_change) := goodIn_app (goodIn_of _ (by decide +kernel)) ggL_change_X0_change
set_option maxRecDepth 20000 in
theorem ggL_look_X0_look : GoodIn wsL_look wsX0_look := goodIn_ca (goodIn_r _ [6, 7, 8, 9, 10, 11, 12, 13, 14, 15, 16, 5, 17, 18, 19, 20, 21, 22, 23, 24, 25, 26, 27, 28, 29, 30, 31, 32, 33, 34, 35, 36, 37, 38, 39, 40, 41, 42, 43, 44, 45, 46, 47, 48, 49, 50, 51, 52, 53] (by decide +kernel) (by decide +kernel)) (goodIn_sub (fun _ h => List.mem_cons_of_mem _ (List.mem_append_right _ h)) (by decide +kernel))
set_option maxRecDepth 20000 in
theorem gL_look_X0_look : GoodIn wsL_look (wsV RL 46 RX0 yX0_look wsX0_look) := goodIn_app (goodIn_of _ (by decide +kernel)) ggL_look_X0_look
set_option maxRecDepth 20000 in
theorem ggL_law_X0_init : GoodIn wsL_law wsX0_init := goodIn_r _ [10, 11, 12, 13, 14, 15, 16, 17, 18, 19, 20, 21, 22, 23, 2, 24, 25, 295, 296, 297, 298, 299, 300, 301, 302, 303, 304, 305] (by decide +kernel) (by decide +kernel)
set_option maxRecDepth 20000 in
theorem gL_law_X0_init : GoodIn wsL_law (wsX0_init) := ggL_law_X0_init
set_option maxRecDepth 20000 in
theorem ggL_law_X1_init : GoodIn wsL_law wsX1_init := goodIn_r _ [28, 29, 12, 13, 14, 30, 31, 32, 33, 34, 35, 36, 306, 307, 308, 309, 310, 311, 312, 313, 314, 315, 316] (by decide +kernel) (by decide +kernel)
set_option maxRecDepth 20000 in
theorem gL_law_X1_init : GoodIn wsL_law (wsX1_init) := ggL_law_X1_init
set_option maxRecDepth 20000 in
theorem ggL_law_L_feed : GoodIn wsL_law wsL_feed := goodIn_ca (goodIn_ca (goodIn_r _ [40, 41, 42, 43, 44, 45, 2, 46, 47, 48, 49, 50, 51, 18, 295, 296, 297, 298, 299, 300, 301, 302, 303, 304, 305] (by decide +kernel) (by decide +kernel)) (goodIn_sub (fun _ h => List.mem_append_left _ (List.mem_append_left _ (List.mem_append_right _ h))) (by decide +kernel))) (goodIn_sub (fun _ h => List.mem_append_left _ (List.mem_append_right _ h)) (by decide +kernel))
set_option maxRecDepth 20000 in
theorem gL_law_L_feed : GoodIn wsL_law (va_wsS RL 56 yL_feed wsL_feed) := goodIn_app (goodIn_of _ (by decide +kernel)) ggL_law_L_feed
set_option maxRecDepth 20000 in
theorem ggL_law_X1_feed : GoodIn wsL_law wsX1_feed := goodIn_r _ [55, 56, 57, 31, 58, 59, 60, 5, 61, 62, 63, 64, 65, 66, 306, 307, 308, 309, 310, 311, 312, 313, 314, 315, 316] (by decide +kernel) (by decide +kernel)
set_option maxRecDepth 20000 in
theorem gL_law_X1_feed : GoodIn wsL_law (wsV RL 61 RX1 yX1_feed wsX1_feed) := goodIn_app (goodIn_of _ (by decide +kernel)) ggL_law_X1_feed
set_option maxRecDepth 20000 in
theorem ggL_law_X1_thrown : GoodIn wsL_law wsX1_thrown := goodIn_r _ [70, 66, 306, 307, 308, 309, 310, 311, 312, 313, 314, 315, 316] (by decide +kernel) (by decide +kernel)
set_option maxRecDepth 20000 in
theorem gL_law_X1_thrown : GoodIn wsL_law (wsV RL 62 RX1 yX1_thrown wsX1_thrown) := goodIn_app (goodIn_of _ (by decide +kernel)) ggL_law_X1_thrown
set_option maxRecDepth 20000 in
theorem ggL_law_L_put : GoodIn wsL_law wsL_put := goodIn_ca (goodIn_ca (goodIn_r _ [73, 41, 42, 74, 75, 76, 2, 77, 47, 48, 49, 50, 78, 18, 20, 79, 80, 81, 82, 51, 83, 84, 85, 86, 87, 88, 89, 19, 90, 91, 92, 93, 94, 95, 96, 97, 98, 99, 100, 101, 295, 296, 297, 298, 299, 300, 301, 302, 303, 304, 305] (by decide +kernel) (by decide +kernel)) (goodIn_sub (fun _ h => List.mem_append_left _ (List.mem_append_left _ (List.mem_append_right _ h))) (by decide +kernel))) (goodIn_sub (fun _ h => List.mem_append_left _ (List.mem_append_right _ h)) (by decide +kernel))
set_option maxRecDepth 20000 in
theorem gL_law_L_put : GoodIn wsL_law (va_wsS RL 65 yL_put wsL_put) := goodIn_app (goodIn_of _ (by decide +kernel)) ggL_law_L_put
set_option maxRecDepth 20000 in
theorem ggL_law_X1_put : GoodIn wsL_law wsX1_put := goodIn_r _ [105, 106, 107, 108, 32, 33, 57, 31, 59, 60, 5, 61, 62, 63, 64, 65, 66, 109, 110, 111, 112, 306, 307, 308, 309, 310, 311, 312, 313, 314, 315, 316] (by decide +kernel) (by decide +kernel)
set_option maxRecDepth 20000 in
theorem gL_law_X1_put : GoodIn wsL_law (wsV RL 68 RX1 yX1_put wsX1_put) := goodIn_app (goodIn_of _ (by decide +kernel)) ggL_law_X1_put
set_option maxRecDepth 20000 in
theorem ggL_law_X0_drop : GoodIn wsL_law wsX0_drop := goodIn_r _ [116, 78, 295, 296, 297, 298, 299, 300, 301, 302, 303, 304, 305] (by decide +kernel) (by decide +kernel)
set_option maxRecDepth 20000 in
theorem gL_law_X0_drop : GoodIn wsL_law (wsV RL 69 RX0 yX0_drop wsX0_drop) := goodIn_app (goodIn_of _ (by decide +kernel)) ggL_law_X0_drop
set_option maxRecDepth 20000 in
theorem ggL_law_X1_drop : GoodIn wsL_law wsX1_drop := goodIn_r _ [120, 66, 108, 306, 307, 308, 309, 310, 311, 312, 313, 314, 315, 316] (by decide +kernel) (by decide +kernel)
set_option maxRecDepth 20000 in
theorem gL_law_X1_drop : GoodIn wsL_law (wsV RL 72 RX1 yX1_drop wsX1_drop) := goodIn_app (goodIn_of _ (by decide +kernel)) ggL_law_X1_drop
set_option maxRecDepth 20000 in
theorem ggL_law_L_commit : GoodIn wsL_law wsL_commit := goodIn_ca (goodIn_r _ [123, 42, 124, 125, 126, 2, 127, 49, 50, 78, 128, 20, 19, 129, 130, 131, 132, 15, 133, 134, 135, 136, 21, 79, 80, 81, 82, 137, 138, 139, 140, 141, 17, 98, 99, 100, 101, 142, 143, 144, 145, 146, 147, 148, 149, 16, 150, 151, 152, 153, 295, 296, 297, 298, 299, 300, 301, 302, 303, 304, 305] (by decide +kernel) (by decide +kernel)) (goodIn_sub (fun _ h => List.mem_append_left _ (List.mem_append_right _ h)) (by decide +kernel))
set_option maxRecDepth 20000 in
theorem gL_law_L_commit : GoodIn wsL_law (va_wsS RL 73 yL_commit wsL_commit) := goodIn_app (goodIn_of _ (by decide +kernel)) ggL_law_L_commit
set_option maxRecDepth 20000 in
theorem ggL_law_X1_commit : GoodIn wsL_law wsX1_commit := goodIn_r _ [157, 108, 158, 62, 63, 64, 5, 65, 66, 159, 160, 161, 162, 163, 30, 164, 165, 166, 167, 36, 33, 32, 168, 169, 170, 171, 58, 172, 173, 174, 175, 176, 177, 178, 179, 180, 181, 182, 183, 184, 185, 35, 186, 306, 307, 308, 309, 310, 311, 312, 313, 314, 315, 316] (by decide +kernel) (by decide +kernel)
set_option maxRecDepth 20000 in
theorem gL_law_X1_commit : GoodIn wsL_law (wsV RL 76 RX1 yX1_commit wsX1_commit) := goodIn_app (goodIn_of _ (by decide +kernel)) ggL_law_X1_commit
set_option maxRecDepth 20000 in
theorem ggL_law_L_recover : GoodIn wsL_law wsL_recover := goodIn_ca (goodIn_r _ [189, 42, 190, 191, 192, 2, 193, 49, 50, 128, 15, 194, 195, 196, 197, 198, 199, 200, 201, 202, 203, 204, 205, 206, 207, 208, 209, 83, 84, 85, 129, 130, 131, 132, 146, 147, 148, 149, 16, 133, 134, 135, 136, 21, 79, 80, 81, 82, 137, 150, 151, 152, 153, 17, 98, 99, 100, 101, 142, 143, 144, 145, 295, 296, 297, 298, 299, 300, 301, 302, 303, 304, 305] (by decide +kernel) (by decide +kernel)) (goodIn_sub (fun _ h => List.mem_append_left _ (List.mem_append_right _ h)) (by decide +kernel))
set_option maxRecDepth 20000 in
theorem gL_law_L_recover : GoodIn wsL_law (va_wsS RL 77 yL_recover wsL_recover) := goodIn_app (goodIn_of _ (by decide +kernel)) ggL_law_L_recover
set_option maxRecDepth 20000 in
theorem ggL_law_X1_recover : GoodIn wsL_law wsX1_recover := goodIn_r _ [213, 158, 30, 36, 62, 63, 64, 5, 65, 66, 214, 215, 216, 217, 218, 106, 107, 59, 60, 61, 219, 220, 221, 222, 159, 160, 161, 162, 163, 172, 173, 174, 175, 176, 177, 182, 183, 184, 185, 35, 186, 168, 169, 170, 171, 58, 32, 178, 179, 180, 181, 108, 306, 307, 308, 309, 310, 311, 312, 313, 314, 315, 316] (by decide +kernel) (by decide +kernel)
set_option maxRecDepth 20000 in
theorem gL_law_X1_recover : GoodIn wsL_law (wsV RL 79 RX1 yX1_recover wsX1_recover) := goodIn_app (goodIn_of _ (by decide +kernel)) ggL_law_X1_recover
set_option maxRecDepth 20000 in
theorem ggL_law_L_lose : GoodIn wsL_law wsL_lose := goodIn_ca (goodIn_ca (goodIn_r _ [225, 41, 42, 226, 227, 228, 2, 229, 47, 48, 49, 50, 128, 21, 295, 296, 297, 298, 299, 300, 301, 302, 303, 304, 305] (by decide +kernel) (by decide +kernel)) (goodIn_sub (fun _ h => List.mem_append_left _ (List.mem_append_left _ (List.mem_append_right _ h))) (by decide +kernel))) (goodIn_sub (fun _ h => List.mem_append_left _ (List.mem_append_right _ h)) (by decide +kernel))
set_option maxRecDepth 20000 in
theorem gL_law_L_lose : GoodIn wsL_law (va_wsS RL 80 yL_lose wsL_lose) := goodIn_app (goodIn_of _ (by decide +kernel)) ggL_law_L_lose
set_option maxRecDepth 20000 in
theorem ggL_law_X1_lose : GoodIn wsL_law wsX1_lose := goodIn_r _ [233, 158, 35, 62, 63, 64, 5, 65, 66, 306, 307, 308, 309, 310, 311, 312, 313, 314, 315, 316] (by decide +kernel) (by decide +kernel)
set_option maxRecDepth 20000 in
theorem gL_law_X1_lose : GoodIn wsL_law (wsV RL 83 RX1 yX1_lose wsX1_lose) := goodIn_app (goodIn_of _ (by decide +kernel)) ggL_law_X1_lose
set_option maxRecDepth 20000 in
theorem ggL_law_X0_power : GoodIn wsL_law wsX0_power := goodIn_r _ [237, 128, 21, 295, 296, 297, 298, 299, 300, 301, 302, 303, 304, 305] (by decide +kernel) (by decide +kernel)
set_option maxRecDepth 20000 in
theorem gL_law_X0_power : GoodIn wsL_law (wsV RL 84 RX0 yX0_power wsX0_power) := goodIn_app (goodIn_of _ (by decide +kernel)) ggL_law_X0_power
set_option maxRecDepth 20000 in
theorem ggL_law_X1_power : GoodIn wsL_law wsX1_power := goodIn_r _ [241, 66, 158, 34, 35, 306, 307, 308, 309, 310, 311, 312, 313, 314, 315, 316] (by decide +kernel) (by decide +kernel)
set_option maxRecDepth 20000 in
theorem gL_law_X1_power : GoodIn wsL_law (wsV RL 87 RX1 yX1_power wsX1_power) := goodIn_app (goodIn_of _ (by decide +kernel)) ggL_law_X1_power
set_option maxRecDepth 20000 in
theorem ggL_law_L_spoil : GoodIn wsL_law wsL_spoil := goodIn_ca (goodIn_r _ [244, 41, 245, 246, 247, 2, 248, 47, 48, 15, 249, 250, 251, 295, 296, 297, 298, 299, 300, 301, 302, 303, 304, 305] (by decide +kernel) (by decide +kernel)) (goodIn_sub (fun _ h => List.mem_append_left _ (List.mem_append_left _ (List.mem_append_right _ h))) (by decide +kernel))
set_option maxRecDepth 20000 in
theorem gL_law_L_spoil : GoodIn wsL_law (va_wsS RL 88 yL_spoil wsL_spoil) := goodIn_app (goodIn_of _ (by decide +kernel)) ggL_law_L_spoil
set_option maxRecDepth 20000 in
theorem ggL_law_X1_spoil : GoodIn wsL_law wsX1_spoil := goodIn_r _ [255, 107, 256, 30, 59, 60, 5, 61, 62, 63, 64, 65, 66, 306, 307, 308, 309, 310, 311, 312, 313, 314, 315, 316] (by decide +kernel) (by decide +kernel)
set_option maxRecDepth 20000 in
theorem gL_law_X1_spoil : GoodIn wsL_law (wsV RL 91 RX1 yX1_spoil wsX1_spoil) := goodIn_app (goodIn_of _ (by decide +kernel)) ggL_law_X1_spoil
set_option maxRecDepth 20000 in
theorem ggL_law_L_at : GoodIn wsL_law wsL_at := goodIn_ca (goodIn_r _ [259, 41, 260, 261, 262, 2, 263, 47, 48, 15, 249, 250, 251, 295, 296, 297, 298, 299, 300, 301, 302, 303, 304, 305] (by decide +kernel) (by decide +kernel)) (goodIn_sub (fun _ h => List.mem_append_left _ (List.mem_append_left _ (List.mem_append_right _ h))) (by decide +kernel))
set_option maxRecDepth 20000 in
theorem gL_law_L_at : GoodIn wsL_law (va_wsS RL 92 yL_at wsL_at) := goodIn_app (goodIn_of _ (by decide +kernel)) ggL_law_L_at
set_option maxRecDepth 20000 in
theorem ggL_law_X1_at : GoodIn wsL_law wsX1_at := goodIn_r _ [267, 107, 256, 30, 59, 60, 5, 61, 62, 63, 64, 65, 66, 306, 307, 308, 309, 310, 311, 312, 313, 314, 315, 316] (by decide +kernel) (by decide +kernel)
set_option maxRecDepth 20000 in
theorem gL_law_X1_at : GoodIn wsL_law (wsV RL 95 RX1 yX1_at wsX1_at) := goodIn_app (goodIn_of _ (by decide +kernel)) ggL_law_X1_at
set_option maxRecDepth 20000 in
theorem ggL_law_L_change : GoodIn wsL_law wsL_change := goodIn_ca (goodIn_r _ [270, 271, 272, 273, 274, 2, 275, 276, 277, 78, 19, 295, 296, 297, 298, 299, 300, 301, 302, 303, 304, 305] (by decide +kernel) (by decide +kernel)) (goodIn_sub (fun _ h => List.mem_append_right _ h) (by decide +kernel))
set_option maxRecDepth 20000 in
theorem gL_law_L_change : GoodIn wsL_law (va_wsS RL 96 yL_change wsL_change) := goodIn_app (goodIn_of _ (by decide +kernel)) ggL_law_L_change
set_option maxRecDepth 20000 in
theorem ggL_law_X1_change : GoodIn wsL_law wsX1_change := goodIn_r _ [281, 108, 32, 59, 60, 5, 61, 62, 63, 64, 65, 66, 178, 179, 180, 181, 306, 307, 308, 309, 310, 311, 312, 313, 314, 315, 316] (by decide +kernel) (by decide +kernel)
set_option maxRecDepth 20000 in
theorem gL_law_X1_change : GoodIn wsL_law (wsV RL 98 RX1 yX1_change wsX1_change) := goodIn_app (goodIn_of _ (by decide +kernel)) ggL_law_X1_change
set_option maxRecDepth 20000 in
theorem ggL_law_L_look : GoodIn wsL_law wsL_look := goodIn_ca (goodIn_r _ [284, 271, 285, 286, 287, 2, 288, 276, 277, 289, 78, 137, 128, 21, 129, 130, 131, 132, 15, 198, 199, 200, 201, 194, 195, 196, 197, 202, 203, 204, 205, 206, 207, 208, 209, 83, 84, 85, 146, 147, 148, 149, 16, 295, 296, 297, 298, 299, 300, 301, 302, 303, 304, 305] (by decide +kernel) (by decide +kernel)) (goodIn_sub (fun _ h => List.mem_append_right _ h) (by decide +kernel))
set_option maxRecDepth 20000 in
theorem gL_law_L_look : GoodIn wsL_law (va_wsS RL 99 yL_look wsL_look) := goodIn_app (goodIn_of _ (by decide +kernel)) ggL_law_L_look
set_option maxRecDepth 20000 in
theorem ggL_law_X1_look : GoodIn wsL_law wsX1_look := goodIn_r _ [293, 294, 30, 108, 186, 158, 35, 59, 60, 5, 61, 62, 63, 64, 65, 66, 159, 160, 161, 162, 163, 214, 215, 216, 217, 218, 106, 107, 219, 220, 221, 222, 172, 173, 174, 175, 176, 177, 306, 307, 308, 309, 310, 311, 312, 313, 314, 315, 316] (by decide +kernel) (by decide +kernel)
set_option maxRecDepth 20000 in
theorem gL_law_X1_look : GoodIn wsL_law (wsV RL 101 RX1 yX1_look wsX1_look) := goodIn_app (goodIn_of _ (by decide +kernel)) ggL_law_X1_look
abbrev vwCl : List vw_C := [(RX0, TX0, 11), (RX1, TX1, 11)]
/-! ===== END printed: names ===== -/
