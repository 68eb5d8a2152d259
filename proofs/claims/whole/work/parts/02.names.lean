-- own names: classes, fields, methods, the words of the tables that stay (by wip/gen/names.py)
def rP : String := "ShortenPrograms$Program"
def rA : String := "ShortenPrograms$Ask"
def rM : String := "ShortenPrograms$Memory"
def rW : String := "ShortenPrograms$Walk"
def rS : String := "ShortenPrograms"
def rD : String := "ShortenProgramsModel"
def rL : String := "ShortenProgramsLaw"
def tP : u_T := fun k => match k with
  | 0 => ("ShortenPrograms$Program", "words", "[I", true)
  | 1 => ("ShortenPrograms$Program", "origins", "[I", true)
  | _ => ("ShortenPrograms$Program", "length", "I", false)
def tyP : Nat → FieldType := fun k => match k with
  | 0 => .array .int
  | 1 => .array .int
  | _ => .int
theorem nmP : ∀ a, a < 3 → ∀ b, b < 3 → a ≠ b → (tP a).2.1 ≠ (tP b).2.1 := by decide +kernel
theorem tyP_ok : ∀ k, k < 3 → parseFieldDescriptor (tP k).2.2.1 = some (tyP k) := by decide +kernel
def tA : u_T := fun k => match k with
  | 0 => ("ShortenPrograms$Ask", "program", "LShortenPrograms$Program;", true)
  | 1 => ("ShortenPrograms$Ask", "mark", "I", false)
  | _ => ("ShortenPrograms$Ask", "answer", "I", false)
def tyA : Nat → FieldType := fun k => match k with
  | 0 => .object "ShortenPrograms$Program"
  | 1 => .int
  | _ => .int
theorem nmA : ∀ a, a < 3 → ∀ b, b < 3 → a ≠ b → (tA a).2.1 ≠ (tA b).2.1 := by decide +kernel
theorem tyA_ok : ∀ k, k < 3 → parseFieldDescriptor (tA k).2.2.1 = some (tyA k) := by decide +kernel
def tM : u_T := fun k => match k with
  | 0 => ("ShortenPrograms$Memory", "asks", "[LShortenPrograms$Ask;", true)
  | _ => ("ShortenPrograms$Memory", "filled", "I", false)
def tyM : Nat → FieldType := fun k => match k with
  | 0 => .array (.object "ShortenPrograms$Ask")
  | _ => .int
theorem nmM : ∀ a, a < 2 → ∀ b, b < 2 → a ≠ b → (tM a).2.1 ≠ (tM b).2.1 := by decide +kernel
theorem tyM_ok : ∀ k, k < 2 → parseFieldDescriptor (tM k).2.2.1 = some (tyM k) := by decide +kernel
def tW : u_T := fun k => match k with
  | 0 => ("ShortenPrograms$Walk", "step", "I", false)
  | 1 => ("ShortenPrograms$Walk", "piece", "I", false)
  | 2 => ("ShortenPrograms$Walk", "place", "I", false)
  | 3 => ("ShortenPrograms$Walk", "someLeftOut", "Z", false)
  | 4 => ("ShortenPrograms$Walk", "wordPlace", "I", false)
  | 5 => ("ShortenPrograms$Walk", "bytePlace", "I", false)
  | 6 => ("ShortenPrograms$Walk", "someLowered", "Z", false)
  | _ => ("ShortenPrograms$Walk", "timesLeaving", "I", false)
def tyW : Nat → FieldType := fun k => match k with
  | 0 => .int
  | 1 => .int
  | 2 => .int
  | 3 => .boolean
  | 4 => .int
  | 5 => .int
  | 6 => .boolean
  | _ => .int
theorem nmW : ∀ a, a < 8 → ∀ b, b < 8 → a ≠ b → (tW a).2.1 ≠ (tW b).2.1 := by decide +kernel
theorem tyW_ok : ∀ k, k < 8 → parseFieldDescriptor (tW k).2.2.1 = some (tyW k) := by decide +kernel
def tS : u_T := fun k => match k with
  | 0 => ("ShortenPrograms", "budget", "I", true)
  | 1 => ("ShortenPrograms", "current", "LShortenPrograms$Program;", true)
  | 2 => ("ShortenPrograms", "candidate", "LShortenPrograms$Program;", true)
  | 3 => ("ShortenPrograms", "memory", "LShortenPrograms$Memory;", true)
  | 4 => ("ShortenPrograms", "walk", "LShortenPrograms$Walk;", true)
  | 5 => ("ShortenPrograms", "state", "I", false)
  | 6 => ("ShortenPrograms", "theDifference", "I", false)
  | 7 => ("ShortenPrograms", "remembered", "I", false)
  | 8 => ("ShortenPrograms", "good", "I", false)
  | 9 => ("ShortenPrograms", "leftOut", "I", false)
  | _ => ("ShortenPrograms", "lowered", "I", false)
def tyS : Nat → FieldType := fun k => match k with
  | 0 => .int
  | 1 => .object "ShortenPrograms$Program"
  | 2 => .object "ShortenPrograms$Program"
  | 3 => .object "ShortenPrograms$Memory"
  | 4 => .object "ShortenPrograms$Walk"
  | 5 => .int
  | 6 => .int
  | 7 => .int
  | 8 => .int
  | 9 => .int
  | _ => .int
theorem nmS : ∀ a, a < 11 → ∀ b, b < 11 → a ≠ b → (tS a).2.1 ≠ (tS b).2.1 := by decide +kernel
theorem tyS_ok : ∀ k, k < 11 → parseFieldDescriptor (tS k).2.2.1 = some (tyS k) := by decide +kernel
def tD : u_T := fun k => match k with
  | 0 => ("ShortenProgramsModel", "thrown", "I", false)
  | 1 => ("ShortenProgramsModel", "budget", "I", true)
  | 2 => ("ShortenProgramsModel", "state", "I", false)
  | 3 => ("ShortenProgramsModel", "size", "I", false)
  | 4 => ("ShortenProgramsModel", "word", "[I", true)
  | 5 => ("ShortenProgramsModel", "origin", "[I", true)
  | 6 => ("ShortenProgramsModel", "candSize", "I", false)
  | 7 => ("ShortenProgramsModel", "cand", "[I", true)
  | 8 => ("ShortenProgramsModel", "isFirst", "Z", false)
  | 9 => ("ShortenProgramsModel", "isLowering", "Z", false)
  | 10 => ("ShortenProgramsModel", "someGood", "Z", false)
  | 11 => ("ShortenProgramsModel", "wasLowered", "Z", false)
  | 12 => ("ShortenProgramsModel", "piece", "I", false)
  | 13 => ("ShortenProgramsModel", "place", "I", false)
  | 14 => ("ShortenProgramsModel", "atWord", "I", false)
  | 15 => ("ShortenProgramsModel", "atByte", "I", false)
  | 16 => ("ShortenProgramsModel", "how", "I", false)
  | 17 => ("ShortenProgramsModel", "difference", "I", false)
  | 18 => ("ShortenProgramsModel", "asks", "I", false)
  | 19 => ("ShortenProgramsModel", "askedSize", "[I", true)
  | 20 => ("ShortenProgramsModel", "askedWord", "[I", true)
  | 21 => ("ShortenProgramsModel", "answer", "[I", true)
  | 22 => ("ShortenProgramsModel", "remembered", "I", false)
  | 23 => ("ShortenProgramsModel", "good", "I", false)
  | 24 => ("ShortenProgramsModel", "leftOut", "I", false)
  | 25 => ("ShortenProgramsModel", "lowered", "I", false)
  | _ => ("ShortenProgramsModel", "begun", "I", false)
def tyD : Nat → FieldType := fun k => match k with
  | 0 => .int
  | 1 => .int
  | 2 => .int
  | 3 => .int
  | 4 => .array .int
  | 5 => .array .int
  | 6 => .int
  | 7 => .array .int
  | 8 => .boolean
  | 9 => .boolean
  | 10 => .boolean
  | 11 => .boolean
  | 12 => .int
  | 13 => .int
  | 14 => .int
  | 15 => .int
  | 16 => .int
  | 17 => .int
  | 18 => .int
  | 19 => .array .int
  | 20 => .array .int
  | 21 => .array .int
  | 22 => .int
  | 23 => .int
  | 24 => .int
  | 25 => .int
  | _ => .int
theorem nmD : ∀ a, a < 27 → ∀ b, b < 27 → a ≠ b → (tD a).2.1 ≠ (tD b).2.1 := by decide +kernel
theorem tyD_ok : ∀ k, k < 27 → parseFieldDescriptor (tD k).2.2.1 = some (tyD k) := by decide +kernel
abbrev vwCl : List vw_C := [(rP, tP, 3), (rA, tA, 3), (rM, tM, 2), (rW, tW, 8), (rS, tS, 11), (rD, tD, 27)]
abbrev cS_init : ByteArray := prog_1_method_1_code
def yS_init : MethodName := ⟨rS, "<init>", "(I)V"⟩
abbrev cP_init : ByteArray := prog_4_method_1_code
def yP_init : MethodName := ⟨rP, "<init>", "()V"⟩
abbrev cM_init : ByteArray := prog_3_method_1_code
def yM_init : MethodName := ⟨rM, "<init>", "()V"⟩
abbrev cW_init : ByteArray := prog_5_method_1_code
def yW_init : MethodName := ⟨rW, "<init>", "()V"⟩
abbrev cS_count : ByteArray := prog_1_method_10_code
def yS_count : MethodName := ⟨rS, "count", "(I)I"⟩
abbrev cP_length : ByteArray := prog_4_method_2_code
def yP_length : MethodName := ⟨rP, "length", "()I"⟩
abbrev cM_filled : ByteArray := prog_3_method_2_code
def yM_filled : MethodName := ⟨rM, "filled", "()I"⟩
abbrev cW_timesLeaving : ByteArray := prog_5_method_2_code
def yW_timesLeaving : MethodName := ⟨rW, "timesLeaving", "()I"⟩
abbrev cL_cell : ByteArray := method_2_code
def yL_cell : MethodName := ⟨rL, "cell", "([II)I"⟩
abbrev cL_feed : ByteArray := method_3_code
def yL_feed : MethodName := ⟨rL, "feed", "(LShortenPrograms;I[J)I"⟩
abbrev cS_feed : ByteArray := prog_1_method_2_code
def yS_feed : MethodName := ⟨rS, "feed", "(I)I"⟩
abbrev cS_startAfresh : ByteArray := prog_1_method_11_code
def yS_startAfresh : MethodName := ⟨rS, "startAfresh", "()V"⟩
abbrev cP_clear : ByteArray := prog_4_method_7_code
def yP_clear : MethodName := ⟨rP, "clear", "()V"⟩
abbrev cM_clear : ByteArray := prog_3_method_3_code
def yM_clear : MethodName := ⟨rM, "clear", "()V"⟩
abbrev cW_clear : ByteArray := prog_5_method_4_code
def yW_clear : MethodName := ⟨rW, "clear", "()V"⟩
abbrev cP_isFull : ByteArray := prog_4_method_3_code
def yP_isFull : MethodName := ⟨rP, "isFull", "()Z"⟩
abbrev cP_append : ByteArray := prog_4_method_8_code
def yP_append : MethodName := ⟨rP, "append", "(I)V"⟩
abbrev cL_begin : ByteArray := method_4_code
def yL_begin : MethodName := ⟨rL, "begin", "(LShortenPrograms;)I"⟩
abbrev cS_begin : ByteArray := prog_1_method_3_code
def yS_begin : MethodName := ⟨rS, "begin", "()V"⟩
abbrev cM_keep : ByteArray := prog_3_method_4_code
def yM_keep : MethodName := ⟨rM, "keep", "(LShortenPrograms$Program;)V"⟩
abbrev cA_init : ByteArray := prog_2_method_1_code
def yA_init : MethodName := ⟨rA, "<init>", "()V"⟩
abbrev cA_open : ByteArray := prog_2_method_5_code
def yA_open : MethodName := ⟨rA, "open", "(LShortenPrograms$Program;)V"⟩
abbrev cP_copy : ByteArray := prog_4_method_9_code
def yP_copy : MethodName := ⟨rP, "copy", "(LShortenPrograms$Program;)V"⟩
abbrev cP_mark : ByteArray := prog_4_method_15_code
def yP_mark : MethodName := ⟨rP, "mark", "()I"⟩
abbrev cL_asked : ByteArray := method_5_code
def yL_asked : MethodName := ⟨rL, "asked", "(LShortenPrograms;I[J)I"⟩
abbrev cS_asked : ByteArray := prog_1_method_4_code
def yS_asked : MethodName := ⟨rS, "asked", "(I)I"⟩
abbrev cS_openAsk : ByteArray := prog_1_method_12_code
def yS_openAsk : MethodName := ⟨rS, "openAsk", "()LShortenPrograms$Ask;"⟩
abbrev cM_last : ByteArray := prog_3_method_5_code
def yM_last : MethodName := ⟨rM, "last", "()LShortenPrograms$Ask;"⟩
abbrev cA_program : ByteArray := prog_2_method_2_code
def yA_program : MethodName := ⟨rA, "program", "()LShortenPrograms$Program;"⟩
abbrev cP_has : ByteArray := prog_4_method_4_code
def yP_has : MethodName := ⟨rP, "has", "(I)Z"⟩
abbrev cP_word : ByteArray := prog_4_method_5_code
def yP_word : MethodName := ⟨rP, "word", "(I)I"⟩
abbrev cL_size : ByteArray := method_6_code
def yL_size : MethodName := ⟨rL, "size", "(LShortenPrograms;[J)I"⟩
abbrev cS_size : ByteArray := prog_1_method_5_code
def yS_size : MethodName := ⟨rS, "size", "()I"⟩
abbrev cL_judge : ByteArray := method_7_code
def yL_judge : MethodName := ⟨rL, "judge", "(LShortenPrograms;I[J)I"⟩
abbrev cS_judge : ByteArray := prog_1_method_6_code
def yS_judge : MethodName := ⟨rS, "judge", "(I)I"⟩
abbrev cA_setAnswer : ByteArray := prog_2_method_4_code
def yA_setAnswer : MethodName := ⟨rA, "setAnswer", "(I)V"⟩
abbrev cS_takeFirst : ByteArray := prog_1_method_13_code
def yS_takeFirst : MethodName := ⟨rS, "takeFirst", "(I)V"⟩
abbrev cW_startLeaving : ByteArray := prog_5_method_5_code
def yW_startLeaving : MethodName := ⟨rW, "startLeaving", "(I)V"⟩
abbrev cW_startGoingThrough : ByteArray := prog_5_method_6_code
def yW_startGoingThrough : MethodName := ⟨rW, "startGoingThrough", "(I)V"⟩
abbrev cS_take : ByteArray := prog_1_method_14_code
def yS_take : MethodName := ⟨rS, "take", "(I)V"⟩
abbrev cW_passOver : ByteArray := prog_5_method_14_code
def yW_passOver : MethodName := ⟨rW, "passOver", "()V"⟩
abbrev cW_nextByte : ByteArray := prog_5_method_15_code
def yW_nextByte : MethodName := ⟨rW, "nextByte", "()V"⟩
abbrev cW_change : ByteArray := prog_5_method_12_code
def yW_change : MethodName := ⟨rW, "change", "(LShortenPrograms$Program;)V"⟩
abbrev cP_leaveOut : ByteArray := prog_4_method_10_code
def yP_leaveOut : MethodName := ⟨rP, "leaveOut", "(II)V"⟩
abbrev cP_byteOf : ByteArray := prog_4_method_11_code
def yP_byteOf : MethodName := ⟨rP, "byteOf", "(II)I"⟩
abbrev cP_shift : ByteArray := prog_4_method_13_code
def yP_shift : MethodName := ⟨rP, "shift", "(I)I"⟩
abbrev cW_lowerValue : ByteArray := prog_5_method_11_code
def yW_lowerValue : MethodName := ⟨rW, "lowerValue", "(I)I"⟩
abbrev cP_setByte : ByteArray := prog_4_method_12_code
def yP_setByte : MethodName := ⟨rP, "setByte", "(III)V"⟩
abbrev cW_isLowering : ByteArray := prog_5_method_3_code
def yW_isLowering : MethodName := ⟨rW, "isLowering", "()Z"⟩
abbrev cW_goOn : ByteArray := prog_5_method_13_code
def yW_goOn : MethodName := ⟨rW, "goOn", "()V"⟩
abbrev cS_askNext : ByteArray := prog_1_method_15_code
def yS_askNext : MethodName := ⟨rS, "askNext", "()V"⟩
abbrev cW_findChange : ByteArray := prog_5_method_8_code
def yW_findChange : MethodName := ⟨rW, "findChange", "(LShortenPrograms$Program;)Z"⟩
abbrev cW_endGoingThrough : ByteArray := prog_5_method_9_code
def yW_endGoingThrough : MethodName := ⟨rW, "endGoingThrough", "()V"⟩
abbrev cW_startLowering : ByteArray := prog_5_method_7_code
def yW_startLowering : MethodName := ⟨rW, "startLowering", "()V"⟩
abbrev cW_canLower : ByteArray := prog_5_method_10_code
def yW_canLower : MethodName := ⟨rW, "canLower", "(I)Z"⟩
abbrev cM_find : ByteArray := prog_3_method_6_code
def yM_find : MethodName := ⟨rM, "find", "(LShortenPrograms$Program;)LShortenPrograms$Ask;"⟩
abbrev cA_isOf : ByteArray := prog_2_method_6_code
def yA_isOf : MethodName := ⟨rA, "isOf", "(LShortenPrograms$Program;I)Z"⟩
abbrev cP_hasSameWords : ByteArray := prog_4_method_14_code
def yP_hasSameWords : MethodName := ⟨rP, "hasSameWords", "(LShortenPrograms$Program;)Z"⟩
abbrev cS_ask : ByteArray := prog_1_method_16_code
def yS_ask : MethodName := ⟨rS, "ask", "()V"⟩
abbrev cA_answer : ByteArray := prog_2_method_3_code
def yA_answer : MethodName := ⟨rA, "answer", "()I"⟩
abbrev cL_at : ByteArray := method_8_code
def yL_at : MethodName := ⟨rL, "at", "(LShortenPrograms;I[J)I"⟩
abbrev cS_at : ByteArray := prog_1_method_7_code
def yS_at : MethodName := ⟨rS, "at", "(I)I"⟩
abbrev cL_from : ByteArray := method_9_code
def yL_from : MethodName := ⟨rL, "from", "(LShortenPrograms;I[J)I"⟩
abbrev cS_from : ByteArray := prog_1_method_8_code
def yS_from : MethodName := ⟨rS, "from", "(I)I"⟩
abbrev cP_origin : ByteArray := prog_4_method_6_code
def yP_origin : MethodName := ⟨rP, "origin", "(I)I"⟩
abbrev cL_known : ByteArray := method_10_code
def yL_known : MethodName := ⟨rL, "known", "(LShortenPrograms;IIII[J)I"⟩
abbrev cS_known : ByteArray := prog_1_method_9_code
def yS_known : MethodName := ⟨rS, "known", "(IIII)I"⟩
abbrev cD_init : ByteArray := prog_7_method_1_code
def yD_init : MethodName := ⟨rD, "<init>", "(I)V"⟩
abbrev cD_thrown : ByteArray := prog_7_method_2_code
def yD_thrown : MethodName := ⟨rD, "thrown", "()I"⟩
abbrev cD_feed : ByteArray := prog_7_method_5_code
def yD_feed : MethodName := ⟨rD, "feed", "(I)I"⟩
abbrev cD_fail : ByteArray := prog_7_method_3_code
def yD_fail : MethodName := ⟨rD, "fail", "(I)I"⟩
abbrev cD_begin : ByteArray := prog_7_method_22_code
def yD_begin : MethodName := ⟨rD, "begin", "()V"⟩
abbrev cD_without : ByteArray := prog_7_method_8_code
def yD_without : MethodName := ⟨rD, "without", "(II)V"⟩
abbrev cD_put : ByteArray := prog_7_method_21_code
def yD_put : MethodName := ⟨rD, "put", "()V"⟩
abbrev cD_judge : ByteArray := prog_7_method_23_code
def yD_judge : MethodName := ⟨rD, "judge", "(I)I"⟩
abbrev cD_beginLeaving : ByteArray := prog_7_method_12_code
def yD_beginLeaving : MethodName := ⟨rD, "beginLeaving", "(I)V"⟩
abbrev cD_answered : ByteArray := prog_7_method_19_code
def yD_answered : MethodName := ⟨rD, "answered", "(I)V"⟩
abbrev cD_takeLeaving : ByteArray := prog_7_method_17_code
def yD_takeLeaving : MethodName := ⟨rD, "takeLeaving", "()V"⟩
abbrev cD_takeLowering : ByteArray := prog_7_method_18_code
def yD_takeLowering : MethodName := ⟨rD, "takeLowering", "()V"⟩
abbrev cD_nextByte : ByteArray := prog_7_method_14_code
def yD_nextByte : MethodName := ⟨rD, "nextByte", "()V"⟩
abbrev cD_goOn : ByteArray := prog_7_method_20_code
def yD_goOn : MethodName := ⟨rD, "goOn", "()V"⟩
abbrev cD_prepare : ByteArray := prog_7_method_16_code
def yD_prepare : MethodName := ⟨rD, "prepare", "()Z"⟩
abbrev cD_endPass : ByteArray := prog_7_method_15_code
def yD_endPass : MethodName := ⟨rD, "endPass", "()V"⟩
abbrev cD_beginLowering : ByteArray := prog_7_method_13_code
def yD_beginLowering : MethodName := ⟨rD, "beginLowering", "()V"⟩
abbrev cD_lowerTo : ByteArray := prog_7_method_11_code
def yD_lowerTo : MethodName := ⟨rD, "lowerTo", "()I"⟩
abbrev cD_byteOf : ByteArray := prog_7_method_10_code
def yD_byteOf : MethodName := ⟨rD, "byteOf", "(II)I"⟩
abbrev cD_withByte : ByteArray := prog_7_method_9_code
def yD_withByte : MethodName := ⟨rD, "withByte", "(III)V"⟩
abbrev cD_find : ByteArray := prog_7_method_7_code
def yD_find : MethodName := ⟨rD, "find", "()I"⟩
abbrev cD_isAsked : ByteArray := prog_7_method_6_code
def yD_isAsked : MethodName := ⟨rD, "isAsked", "(I)Z"⟩
abbrev cD_asked : ByteArray := prog_7_method_24_code
def yD_asked : MethodName := ⟨rD, "asked", "(I)I"⟩
abbrev cD_within : ByteArray := prog_7_method_4_code
def yD_within : MethodName := ⟨rD, "within", "(III)Z"⟩
abbrev cD_size : ByteArray := prog_7_method_25_code
def yD_size : MethodName := ⟨rD, "size", "()I"⟩
abbrev cD_at : ByteArray := prog_7_method_26_code
def yD_at : MethodName := ⟨rD, "at", "(I)I"⟩
abbrev cD_from : ByteArray := prog_7_method_27_code
def yD_from : MethodName := ⟨rD, "from", "(I)I"⟩
abbrev cD_known : ByteArray := prog_7_method_28_code
def yD_known : MethodName := ⟨rD, "known", "(IIII)I"⟩
abbrev cD_count : ByteArray := prog_7_method_29_code
def yD_count : MethodName := ⟨rD, "count", "(I)I"⟩
abbrev cL_law : ByteArray := code
def wA_0 : List Cond := [.initialized "ShortenProgramsLaw", .initialized "ShortenPrograms", .initialized "java/lang/Math", .initialized "ShortenPrograms$Program", .initialized "ShortenPrograms$Memory", .initialized "ShortenPrograms$Walk", .initialized "ShortenProgramsModel", .initialized "java/lang/Throwable", .initialized "java/lang/Exception", .initialized "java/lang/RuntimeException", .initialized "java/lang/UnsupportedOperationException", .initialized "java/lang/IllegalStateException", .initialized "ShortenPrograms$Ask", .initialized "java/lang/IndexOutOfBoundsException", .initialized "java/lang/IllegalArgumentException", .classLink "ShortenProgramsLaw" 8 "ShortenPrograms", .instantiable "ShortenPrograms" 11, .methodLink "ShortenProgramsLaw" 50 yS_init, .instanceMethod yS_init, .code yS_init prog_1_method_1_code 2 none, .methodLink "ShortenPrograms" 1 ⟨"java/lang/Object", "<init>", "()V"⟩, .instanceMethod ⟨"java/lang/Object", "<init>", "()V"⟩, .code ⟨"java/lang/Object", "<init>", "()V"⟩ object_method_1_code 1 none, .constantLong "ShortenPrograms" 9 (600), .methodLink "ShortenPrograms" 11 ⟨"java/lang/Math", "floorMod", "(JJ)J"⟩, .static ⟨"java/lang/Math", "floorMod", "(JJ)J"⟩, .code ⟨"java/lang/Math", "floorMod", "(JJ)J"⟩ prog_12_method_52_code 6 (some .long), .classLink "ShortenPrograms" 21 "ShortenPrograms$Program", .instantiable "ShortenPrograms$Program" 3, .instanceMethod yP_init, .code yP_init prog_4_method_1_code 1 none, .methodLink "ShortenPrograms$Program" 3 ⟨"java/lang/Object", "<init>", "()V"⟩, .fieldLink "ShortenPrograms$Program" 9 "ShortenPrograms$Program" "words" "[I", .fieldLink "ShortenPrograms$Program" 15 "ShortenPrograms$Program" "origins" "[I", .fieldLink "ShortenPrograms$Program" 18 "ShortenPrograms$Program" "length" "I", .laysFinal "ShortenPrograms$Program" "ShortenPrograms$Program" "words" "[I", .soleField "ShortenPrograms$Program" "words", .laysFinal "ShortenPrograms$Program" "ShortenPrograms$Program" "origins" "[I", .soleField "ShortenPrograms$Program" "origins", .lays "ShortenPrograms$Program" "ShortenPrograms$Program" "length" "I"]
def wA_1 : List Cond := [.soleField "ShortenPrograms$Program" "length", .superclass "ShortenPrograms$Program" "java/lang/Object", .arrayClass .int, .classLink "ShortenPrograms" 31 "ShortenPrograms$Memory", .instantiable "ShortenPrograms$Memory" 2, .instanceMethod yM_init, .code yM_init prog_3_method_1_code 1 none, .methodLink "ShortenPrograms$Memory" 3 ⟨"java/lang/Object", "<init>", "()V"⟩, .classLink "ShortenPrograms$Memory" 9 "ShortenPrograms$Ask", .fieldLink "ShortenPrograms$Memory" 11 "ShortenPrograms$Memory" "asks" "[LShortenPrograms$Ask;", .fieldLink "ShortenPrograms$Memory" 17 "ShortenPrograms$Memory" "filled" "I", .laysFinal "ShortenPrograms$Memory" "ShortenPrograms$Memory" "asks" "[LShortenPrograms$Ask;", .soleField "ShortenPrograms$Memory" "asks", .lays "ShortenPrograms$Memory" "ShortenPrograms$Memory" "filled" "I", .soleField "ShortenPrograms$Memory" "filled", .superclass "ShortenPrograms$Memory" "java/lang/Object", .classLink "ShortenPrograms" 38 "ShortenPrograms$Walk", .instantiable "ShortenPrograms$Walk" 8, .instanceMethod yW_init, .code yW_init prog_5_method_1_code 1 none, .methodLink "ShortenPrograms$Walk" 3 ⟨"java/lang/Object", "<init>", "()V"⟩, .fieldLink "ShortenPrograms$Walk" 15 "ShortenPrograms$Walk" "step" "I", .fieldLink "ShortenPrograms$Walk" 22 "ShortenPrograms$Walk" "piece" "I", .fieldLink "ShortenPrograms$Walk" 25 "ShortenPrograms$Walk" "place" "I", .fieldLink "ShortenPrograms$Walk" 28 "ShortenPrograms$Walk" "someLeftOut" "Z", .fieldLink "ShortenPrograms$Walk" 32 "ShortenPrograms$Walk" "wordPlace" "I", .fieldLink "ShortenPrograms$Walk" 35 "ShortenPrograms$Walk" "bytePlace" "I", .fieldLink "ShortenPrograms$Walk" 38 "ShortenPrograms$Walk" "someLowered" "Z", .fieldLink "ShortenPrograms$Walk" 9 "ShortenPrograms$Walk" "timesLeaving" "I", .lays "ShortenPrograms$Walk" "ShortenPrograms$Walk" "step" "I", .soleField "ShortenPrograms$Walk" "step", .lays "ShortenPrograms$Walk" "ShortenPrograms$Walk" "piece" "I", .soleField "ShortenPrograms$Walk" "piece", .lays "ShortenPrograms$Walk" "ShortenPrograms$Walk" "place" "I", .soleField "ShortenPrograms$Walk" "place", .lays "ShortenPrograms$Walk" "ShortenPrograms$Walk" "someLeftOut" "Z", .soleField "ShortenPrograms$Walk" "someLeftOut", .lays "ShortenPrograms$Walk" "ShortenPrograms$Walk" "wordPlace" "I", .soleField "ShortenPrograms$Walk" "wordPlace", .lays "ShortenPrograms$Walk" "ShortenPrograms$Walk" "bytePlace" "I"]
def wA_2 : List Cond := [.soleField "ShortenPrograms$Walk" "bytePlace", .lays "ShortenPrograms$Walk" "ShortenPrograms$Walk" "someLowered" "Z", .soleField "ShortenPrograms$Walk" "someLowered", .lays "ShortenPrograms$Walk" "ShortenPrograms$Walk" "timesLeaving" "I", .soleField "ShortenPrograms$Walk" "timesLeaving", .superclass "ShortenPrograms$Walk" "java/lang/Object", .fieldLink "ShortenPrograms" 17 "ShortenPrograms" "budget" "I", .fieldLink "ShortenPrograms" 24 "ShortenPrograms" "current" "LShortenPrograms$Program;", .fieldLink "ShortenPrograms" 28 "ShortenPrograms" "candidate" "LShortenPrograms$Program;", .fieldLink "ShortenPrograms" 34 "ShortenPrograms" "memory" "LShortenPrograms$Memory;", .fieldLink "ShortenPrograms" 41 "ShortenPrograms" "walk" "LShortenPrograms$Walk;", .fieldLink "ShortenPrograms" 45 "ShortenPrograms" "state" "I", .fieldLink "ShortenPrograms" 48 "ShortenPrograms" "theDifference" "I", .fieldLink "ShortenPrograms" 156 "ShortenPrograms" "remembered" "I", .fieldLink "ShortenPrograms" 159 "ShortenPrograms" "good" "I", .fieldLink "ShortenPrograms" 162 "ShortenPrograms" "leftOut" "I", .fieldLink "ShortenPrograms" 165 "ShortenPrograms" "lowered" "I", .laysFinal "ShortenPrograms" "ShortenPrograms" "budget" "I", .soleField "ShortenPrograms" "budget", .laysFinal "ShortenPrograms" "ShortenPrograms" "current" "LShortenPrograms$Program;", .soleField "ShortenPrograms" "current", .laysFinal "ShortenPrograms" "ShortenPrograms" "candidate" "LShortenPrograms$Program;", .soleField "ShortenPrograms" "candidate", .laysFinal "ShortenPrograms" "ShortenPrograms" "memory" "LShortenPrograms$Memory;", .soleField "ShortenPrograms" "memory", .laysFinal "ShortenPrograms" "ShortenPrograms" "walk" "LShortenPrograms$Walk;", .soleField "ShortenPrograms" "walk", .lays "ShortenPrograms" "ShortenPrograms" "state" "I", .soleField "ShortenPrograms" "state", .lays "ShortenPrograms" "ShortenPrograms" "theDifference" "I", .soleField "ShortenPrograms" "theDifference", .lays "ShortenPrograms" "ShortenPrograms" "remembered" "I", .soleField "ShortenPrograms" "remembered", .lays "ShortenPrograms" "ShortenPrograms" "good" "I", .soleField "ShortenPrograms" "good", .lays "ShortenPrograms" "ShortenPrograms" "leftOut" "I", .soleField "ShortenPrograms" "leftOut", .lays "ShortenPrograms" "ShortenPrograms" "lowered" "I", .soleField "ShortenPrograms" "lowered", .superclass "ShortenPrograms" "java/lang/Object"]
def wA_3 : List Cond := [.methodLink "ShortenProgramsLaw" 87 yS_count, .instanceMethod yS_count, .selects "ShortenPrograms" yS_count yS_count, .code yS_count prog_1_method_10_code 2 (some .int), .methodLink "ShortenPrograms" 69 yP_length, .instanceMethod yP_length, .selects "ShortenPrograms$Program" yP_length yP_length, .code yP_length prog_4_method_2_code 1 (some .int), .methodLink "ShortenPrograms" 153 yM_filled, .instanceMethod yM_filled, .selects "ShortenPrograms$Memory" yM_filled yM_filled, .code yM_filled prog_3_method_2_code 1 (some .int), .methodLink "ShortenPrograms" 168 yW_timesLeaving, .instanceMethod yW_timesLeaving, .selects "ShortenPrograms$Walk" yW_timesLeaving yW_timesLeaving, .code yW_timesLeaving prog_5_method_2_code 1 (some .int), .methodLink "ShortenProgramsLaw" 44 yL_cell, .static yL_cell, .code yL_cell method_2_code 2 (some .int), .methodLink "ShortenProgramsLaw" 56 yL_feed, .static yL_feed, .codeWith yL_feed method_3_code 4 (some .int) [(0, 9, 12, 13)], .classLink "ShortenProgramsLaw" 13 "java/lang/UnsupportedOperationException", .methodLink "ShortenProgramsLaw" 7 yS_feed, .instanceMethod yS_feed, .selects "ShortenPrograms" yS_feed yS_feed, .code yS_feed prog_1_method_2_code 2 (some .int), .methodLink "ShortenPrograms" 51 yS_startAfresh, .instanceMethod yS_startAfresh, .code yS_startAfresh prog_1_method_11_code 1 none, .methodLink "ShortenPrograms" 171 yP_clear, .instanceMethod yP_clear, .selects "ShortenPrograms$Program" yP_clear yP_clear, .code yP_clear prog_4_method_7_code 1 none, .methodLink "ShortenPrograms" 174 yM_clear, .instanceMethod yM_clear, .selects "ShortenPrograms$Memory" yM_clear yM_clear, .code yM_clear prog_3_method_3_code 1 none, .methodLink "ShortenPrograms" 175 yW_clear, .instanceMethod yW_clear]
def wA_4 : List Cond := [.selects "ShortenPrograms$Walk" yW_clear yW_clear, .code yW_clear prog_5_method_4_code 1 none, .methodLink "ShortenPrograms" 54 yP_isFull, .instanceMethod yP_isFull, .selects "ShortenPrograms$Program" yP_isFull yP_isFull, .code yP_isFull prog_4_method_3_code 1 (some .boolean), .classLink "ShortenPrograms" 58 "java/lang/UnsupportedOperationException", .instantiable "java/lang/UnsupportedOperationException" 6, .selects "java/lang/UnsupportedOperationException" ⟨"java/lang/Throwable", "fillInStackTrace", "(I)Ljava/lang/Throwable;"⟩ ⟨"java/lang/Throwable", "fillInStackTrace", "(I)Ljava/lang/Throwable;"⟩, .selects "java/lang/UnsupportedOperationException" ⟨"java/lang/Throwable", "fillInStackTrace", "()Ljava/lang/Throwable;"⟩ ⟨"java/lang/Throwable", "fillInStackTrace", "()Ljava/lang/Throwable;"⟩, .lays "java/lang/UnsupportedOperationException" "java/lang/Throwable" "cause" "Ljava/lang/Throwable;", .lays "java/lang/Throwable" "java/lang/Throwable" "cause" "Ljava/lang/Throwable;", .lays "java/lang/UnsupportedOperationException" "java/lang/Throwable" "stackTrace" "[Ljava/lang/StackTraceElement;", .lays "java/lang/Throwable" "java/lang/Throwable" "stackTrace" "[Ljava/lang/StackTraceElement;", .lays "java/lang/UnsupportedOperationException" "java/lang/Throwable" "suppressedExceptions" "Ljava/util/List;", .lays "java/lang/Throwable" "java/lang/Throwable" "suppressedExceptions" "Ljava/util/List;", .lays "java/lang/UnsupportedOperationException" "java/lang/Throwable" "detailMessage" "Ljava/lang/String;", .lays "java/lang/Throwable" "java/lang/Throwable" "detailMessage" "Ljava/lang/String;", .lays "java/lang/UnsupportedOperationException" "java/lang/Throwable" "backtrace" "Ljava/lang/Object;", .lays "java/lang/Throwable" "java/lang/Throwable" "backtrace" "Ljava/lang/Object;", .fieldLink "java/lang/Throwable" 198 "java/lang/Throwable" "backtrace" "Ljava/lang/Object;", .superclass "java/lang/Throwable" "java/lang/Object", .instanceMethod ⟨"java/lang/Throwable", "<init>", "()V"⟩, .code ⟨"java/lang/Throwable", "<init>", "()V"⟩ prog_15_method_1_code 1 none, .methodLink "java/lang/Throwable" 1 ⟨"java/lang/Object", "<init>", "()V"⟩, .fieldLink "java/lang/Throwable" 13 "java/lang/Throwable" "UNASSIGNED_STACK" "[Ljava/lang/StackTraceElement;", .fieldLink "java/lang/Throwable" 20 "java/lang/Throwable" "SUPPRESSED_SENTINEL" "Ljava/util/List;", .methodLink "java/lang/Throwable" 27 ⟨"java/lang/Throwable", "fillInStackTrace", "()Ljava/lang/Throwable;"⟩, .instanceMethod ⟨"java/lang/Throwable", "fillInStackTrace", "()Ljava/lang/Throwable;"⟩, .sameMethod "java/lang/Throwable" "java/lang/Throwable" "fillInStackTrace" "()Ljava/lang/Throwable;", .selects "java/lang/IllegalArgumentException" ⟨"java/lang/Throwable", "fillInStackTrace", "()Ljava/lang/Throwable;"⟩ ⟨"java/lang/Throwable", "fillInStackTrace", "()Ljava/lang/Throwable;"⟩, .selects "java/lang/IllegalStateException" ⟨"java/lang/Throwable", "fillInStackTrace", "()Ljava/lang/Throwable;"⟩ ⟨"java/lang/Throwable", "fillInStackTrace", "()Ljava/lang/Throwable;"⟩, .selects "java/lang/IndexOutOfBoundsException" ⟨"java/lang/Throwable", "fillInStackTrace", "()Ljava/lang/Throwable;"⟩ ⟨"java/lang/Throwable", "fillInStackTrace", "()Ljava/lang/Throwable;"⟩, .codeSync ⟨"java/lang/Throwable", "fillInStackTrace", "()Ljava/lang/Throwable;"⟩ prog_15_method_18_code 1 (some (.object "java/lang/Throwable")), .methodLink "java/lang/Throwable" 202 ⟨"java/lang/Throwable", "fillInStackTrace", "(I)Ljava/lang/Throwable;"⟩, .instanceMethod ⟨"java/lang/Throwable", "fillInStackTrace", "(I)Ljava/lang/Throwable;"⟩, .instantiable "java/lang/Throwable" 6, .native ⟨"java/lang/Throwable", "fillInStackTrace", "(I)Ljava/lang/Throwable;"⟩, .methodLink "ShortenPrograms" 62 ⟨"java/lang/UnsupportedOperationException", "<init>", "(Ljava/lang/String;)V"⟩, .instanceMethod ⟨"java/lang/UnsupportedOperationException", "<init>", "(Ljava/lang/String;)V"⟩]
def wA_5 : List Cond := [.code ⟨"java/lang/UnsupportedOperationException", "<init>", "(Ljava/lang/String;)V"⟩ prog_16_method_2_code 2 none, .methodLink "java/lang/UnsupportedOperationException" 7 ⟨"java/lang/RuntimeException", "<init>", "(Ljava/lang/String;)V"⟩, .instanceMethod ⟨"java/lang/RuntimeException", "<init>", "(Ljava/lang/String;)V"⟩, .code ⟨"java/lang/RuntimeException", "<init>", "(Ljava/lang/String;)V"⟩ prog_13_method_2_code 2 none, .methodLink "java/lang/RuntimeException" 7 ⟨"java/lang/Exception", "<init>", "(Ljava/lang/String;)V"⟩, .instanceMethod ⟨"java/lang/Exception", "<init>", "(Ljava/lang/String;)V"⟩, .code ⟨"java/lang/Exception", "<init>", "(Ljava/lang/String;)V"⟩ prog_8_method_2_code 2 none, .methodLink "java/lang/Exception" 7 ⟨"java/lang/Throwable", "<init>", "(Ljava/lang/String;)V"⟩, .instanceMethod ⟨"java/lang/Throwable", "<init>", "(Ljava/lang/String;)V"⟩, .code ⟨"java/lang/Throwable", "<init>", "(Ljava/lang/String;)V"⟩ prog_15_method_2_code 2 none, .fieldLink "java/lang/Throwable" 198 "java/lang/Throwable" "backtrace" "Ljava/lang/Object;", .fieldLink "java/lang/Throwable" 31 "java/lang/Throwable" "detailMessage" "Ljava/lang/String;", .fieldLink "java/lang/Throwable" 7 "java/lang/Throwable" "cause" "Ljava/lang/Throwable;", .fieldLink "java/lang/Throwable" 17 "java/lang/Throwable" "stackTrace" "[Ljava/lang/StackTraceElement;", .fieldLink "java/lang/Throwable" 24 "java/lang/Throwable" "suppressedExceptions" "Ljava/util/List;", .soleField "java/lang/Throwable" "backtrace", .soleField "java/lang/Throwable" "detailMessage", .soleField "java/lang/Throwable" "cause", .soleField "java/lang/Throwable" "stackTrace", .lays "java/lang/UnsupportedOperationException" "java/lang/Throwable" "depth" "I", .soleField "java/lang/Throwable" "depth", .soleField "java/lang/Throwable" "suppressedExceptions", .superclass "java/lang/UnsupportedOperationException" "java/lang/RuntimeException", .arrayClass .byte, .methodLink "ShortenPrograms" 65 yP_append, .instanceMethod yP_append, .selects "ShortenPrograms$Program" yP_append yP_append, .code yP_append prog_4_method_8_code 2 none, .methodLink "ShortenProgramsLaw" 63 yL_begin, .static yL_begin, .codeWith yL_begin method_4_code 2 (some .int) [(0, 4, 7, 18)], .classLink "ShortenProgramsLaw" 18 "java/lang/IllegalStateException", .methodLink "ShortenProgramsLaw" 15 yS_begin, .instanceMethod yS_begin, .selects "ShortenPrograms" yS_begin yS_begin, .code yS_begin prog_1_method_3_code 1 none, .classLink "ShortenPrograms" 73 "java/lang/IllegalStateException", .instantiable "java/lang/IllegalStateException" 6, .selects "java/lang/IllegalStateException" ⟨"java/lang/Throwable", "fillInStackTrace", "(I)Ljava/lang/Throwable;"⟩ ⟨"java/lang/Throwable", "fillInStackTrace", "(I)Ljava/lang/Throwable;"⟩, .lays "java/lang/IllegalStateException" "java/lang/Throwable" "cause" "Ljava/lang/Throwable;"]
def wA_6 : List Cond := [.lays "java/lang/IllegalStateException" "java/lang/Throwable" "stackTrace" "[Ljava/lang/StackTraceElement;", .lays "java/lang/IllegalStateException" "java/lang/Throwable" "suppressedExceptions" "Ljava/util/List;", .lays "java/lang/IllegalStateException" "java/lang/Throwable" "detailMessage" "Ljava/lang/String;", .lays "java/lang/IllegalStateException" "java/lang/Throwable" "backtrace" "Ljava/lang/Object;", .methodLink "ShortenPrograms" 77 ⟨"java/lang/IllegalStateException", "<init>", "(Ljava/lang/String;)V"⟩, .instanceMethod ⟨"java/lang/IllegalStateException", "<init>", "(Ljava/lang/String;)V"⟩, .code ⟨"java/lang/IllegalStateException", "<init>", "(Ljava/lang/String;)V"⟩ prog_10_method_2_code 2 none, .methodLink "java/lang/IllegalStateException" 7 ⟨"java/lang/RuntimeException", "<init>", "(Ljava/lang/String;)V"⟩, .lays "java/lang/IllegalStateException" "java/lang/Throwable" "depth" "I", .superclass "java/lang/IllegalStateException" "java/lang/RuntimeException", .methodLink "ShortenPrograms" 78 yM_keep, .instanceMethod yM_keep, .selects "ShortenPrograms$Memory" yM_keep yM_keep, .code yM_keep prog_3_method_4_code 3 none, .instantiable "ShortenPrograms$Ask" 3, .instanceMethod yA_init, .code yA_init prog_2_method_1_code 1 none, .methodLink "ShortenPrograms$Ask" 3 ⟨"java/lang/Object", "<init>", "()V"⟩, .classLink "ShortenPrograms$Ask" 9 "ShortenPrograms$Program", .fieldLink "ShortenPrograms$Ask" 12 "ShortenPrograms$Ask" "program" "LShortenPrograms$Program;", .fieldLink "ShortenPrograms$Ask" 30 "ShortenPrograms$Ask" "mark" "I", .fieldLink "ShortenPrograms$Ask" 18 "ShortenPrograms$Ask" "answer" "I", .laysFinal "ShortenPrograms$Ask" "ShortenPrograms$Ask" "program" "LShortenPrograms$Program;", .soleField "ShortenPrograms$Ask" "program", .lays "ShortenPrograms$Ask" "ShortenPrograms$Ask" "mark" "I", .soleField "ShortenPrograms$Ask" "mark", .lays "ShortenPrograms$Ask" "ShortenPrograms$Ask" "answer" "I", .soleField "ShortenPrograms$Ask" "answer", .superclass "ShortenPrograms$Ask" "java/lang/Object", .methodLink "ShortenPrograms$Memory" 22 yA_open, .instanceMethod yA_open, .selects "ShortenPrograms$Ask" yA_open yA_open, .code yA_open prog_2_method_5_code 2 none, .methodLink "ShortenPrograms$Ask" 22 yP_copy, .instanceMethod yP_copy, .selects "ShortenPrograms$Program" yP_copy yP_copy, .code yP_copy prog_4_method_9_code 4 none, .methodLink "ShortenPrograms$Program" 26 ⟨"java/lang/Math", "min", "(II)I"⟩, .static ⟨"java/lang/Math", "min", "(II)I"⟩, .code ⟨"java/lang/Math", "min", "(II)I"⟩ prog_12_method_69_code 2 (some .int)]
def wA_7 : List Cond := [.methodLink "ShortenPrograms$Ask" 26 yP_mark, .instanceMethod yP_mark, .selects "ShortenPrograms$Program" yP_mark yP_mark, .code yP_mark prog_4_method_15_code 3 (some .int), .methodLink "ShortenProgramsLaw" 67 yL_asked, .static yL_asked, .codeWith yL_asked method_5_code 4 (some .int) [(0, 9, 12, 18), (0, 9, 15, 23)], .classLink "ShortenProgramsLaw" 23 "java/lang/IndexOutOfBoundsException", .methodLink "ShortenProgramsLaw" 20 yS_asked, .instanceMethod yS_asked, .selects "ShortenPrograms" yS_asked yS_asked, .code yS_asked prog_1_method_4_code 3 (some .int), .methodLink "ShortenPrograms" 82 yS_openAsk, .instanceMethod yS_openAsk, .code yS_openAsk prog_1_method_12_code 1 (some (.object "ShortenPrograms$Ask")), .methodLink "ShortenPrograms" 176 yM_last, .instanceMethod yM_last, .selects "ShortenPrograms$Memory" yM_last yM_last, .code yM_last prog_3_method_5_code 1 (some (.object "ShortenPrograms$Ask")), .methodLink "ShortenPrograms" 88 yA_program, .instanceMethod yA_program, .selects "ShortenPrograms$Ask" yA_program yA_program, .code yA_program prog_2_method_2_code 1 (some (.object "ShortenPrograms$Program")), .methodLink "ShortenPrograms" 94 yP_has, .instanceMethod yP_has, .selects "ShortenPrograms$Program" yP_has yP_has, .code yP_has prog_4_method_4_code 2 (some .boolean), .classLink "ShortenPrograms" 98 "java/lang/IndexOutOfBoundsException", .instantiable "java/lang/IndexOutOfBoundsException" 6, .selects "java/lang/IndexOutOfBoundsException" ⟨"java/lang/Throwable", "fillInStackTrace", "(I)Ljava/lang/Throwable;"⟩ ⟨"java/lang/Throwable", "fillInStackTrace", "(I)Ljava/lang/Throwable;"⟩, .lays "java/lang/IndexOutOfBoundsException" "java/lang/Throwable" "cause" "Ljava/lang/Throwable;", .lays "java/lang/IndexOutOfBoundsException" "java/lang/Throwable" "stackTrace" "[Ljava/lang/StackTraceElement;", .lays "java/lang/IndexOutOfBoundsException" "java/lang/Throwable" "suppressedExceptions" "Ljava/util/List;", .lays "java/lang/IndexOutOfBoundsException" "java/lang/Throwable" "detailMessage" "Ljava/lang/String;", .lays "java/lang/IndexOutOfBoundsException" "java/lang/Throwable" "backtrace" "Ljava/lang/Object;", .methodLink "ShortenPrograms" 102 ⟨"java/lang/IndexOutOfBoundsException", "<init>", "(Ljava/lang/String;)V"⟩, .instanceMethod ⟨"java/lang/IndexOutOfBoundsException", "<init>", "(Ljava/lang/String;)V"⟩, .code ⟨"java/lang/IndexOutOfBoundsException", "<init>", "(Ljava/lang/String;)V"⟩ prog_11_method_2_code 2 none, .methodLink "java/lang/IndexOutOfBoundsException" 7 ⟨"java/lang/RuntimeException", "<init>", "(Ljava/lang/String;)V"⟩, .lays "java/lang/IndexOutOfBoundsException" "java/lang/Throwable" "depth" "I"]
def wA_8 : List Cond := [.superclass "java/lang/IndexOutOfBoundsException" "java/lang/RuntimeException", .methodLink "ShortenPrograms" 103 yP_word, .instanceMethod yP_word, .selects "ShortenPrograms$Program" yP_word yP_word, .code yP_word prog_4_method_5_code 2 (some .int), .methodLink "ShortenPrograms$Program" 22 yP_has, .methodLink "ShortenProgramsLaw" 70 yL_size, .static yL_size, .codeWith yL_size method_6_code 3 (some .int) [(0, 8, 11, 18)], .methodLink "ShortenProgramsLaw" 25 yS_size, .instanceMethod yS_size, .selects "ShortenPrograms" yS_size yS_size, .code yS_size prog_1_method_5_code 2 (some .int), .methodLink "ShortenProgramsLaw" 74 yL_judge, .static yL_judge, .codeWith yL_judge method_7_code 4 (some .int) [(0, 9, 12, 18), (0, 9, 15, 32)], .classLink "ShortenProgramsLaw" 32 "java/lang/IllegalArgumentException", .methodLink "ShortenProgramsLaw" 29 yS_judge, .instanceMethod yS_judge, .selects "ShortenPrograms" yS_judge yS_judge, .code yS_judge prog_1_method_6_code 3 (some .int), .classLink "ShortenPrograms" 107 "java/lang/IllegalArgumentException", .instantiable "java/lang/IllegalArgumentException" 6, .selects "java/lang/IllegalArgumentException" ⟨"java/lang/Throwable", "fillInStackTrace", "(I)Ljava/lang/Throwable;"⟩ ⟨"java/lang/Throwable", "fillInStackTrace", "(I)Ljava/lang/Throwable;"⟩, .lays "java/lang/IllegalArgumentException" "java/lang/Throwable" "cause" "Ljava/lang/Throwable;", .lays "java/lang/IllegalArgumentException" "java/lang/Throwable" "stackTrace" "[Ljava/lang/StackTraceElement;", .lays "java/lang/IllegalArgumentException" "java/lang/Throwable" "suppressedExceptions" "Ljava/util/List;", .lays "java/lang/IllegalArgumentException" "java/lang/Throwable" "detailMessage" "Ljava/lang/String;", .lays "java/lang/IllegalArgumentException" "java/lang/Throwable" "backtrace" "Ljava/lang/Object;", .methodLink "ShortenPrograms" 111 ⟨"java/lang/IllegalArgumentException", "<init>", "(Ljava/lang/String;)V"⟩, .instanceMethod ⟨"java/lang/IllegalArgumentException", "<init>", "(Ljava/lang/String;)V"⟩, .code ⟨"java/lang/IllegalArgumentException", "<init>", "(Ljava/lang/String;)V"⟩ prog_9_method_2_code 2 none, .methodLink "java/lang/IllegalArgumentException" 7 ⟨"java/lang/RuntimeException", "<init>", "(Ljava/lang/String;)V"⟩, .lays "java/lang/IllegalArgumentException" "java/lang/Throwable" "depth" "I", .superclass "java/lang/IllegalArgumentException" "java/lang/RuntimeException", .methodLink "ShortenPrograms" 112 yA_setAnswer, .instanceMethod yA_setAnswer, .selects "ShortenPrograms$Ask" yA_setAnswer yA_setAnswer, .code yA_setAnswer prog_2_method_4_code 2 none, .methodLink "ShortenPrograms" 115 yS_takeFirst]
def wA_9 : List Cond := [.instanceMethod yS_takeFirst, .code yS_takeFirst prog_1_method_13_code 2 none, .methodLink "ShortenPrograms" 179 ⟨"java/lang/Math", "max", "(II)I"⟩, .static ⟨"java/lang/Math", "max", "(II)I"⟩, .code ⟨"java/lang/Math", "max", "(II)I"⟩ prog_12_method_65_code 2 (some .int), .methodLink "ShortenPrograms" 183 yW_startLeaving, .instanceMethod yW_startLeaving, .selects "ShortenPrograms$Walk" yW_startLeaving yW_startLeaving, .code yW_startLeaving prog_5_method_5_code 2 none, .methodLink "ShortenPrograms$Walk" 18 yW_startGoingThrough, .instanceMethod yW_startGoingThrough, .code yW_startGoingThrough prog_5_method_6_code 2 none, .methodLink "ShortenPrograms" 118 yS_take, .instanceMethod yS_take, .code yS_take prog_1_method_14_code 3 none, .methodLink "ShortenPrograms" 186 yW_passOver, .instanceMethod yW_passOver, .selects "ShortenPrograms$Walk" yW_passOver yW_passOver, .code yW_passOver prog_5_method_14_code 1 none, .methodLink "ShortenPrograms$Walk" 79 yW_nextByte, .instanceMethod yW_nextByte, .code yW_nextByte prog_5_method_15_code 1 none, .methodLink "ShortenPrograms" 189 yW_change, .instanceMethod yW_change, .selects "ShortenPrograms$Walk" yW_change yW_change, .code yW_change prog_5_method_12_code 3 none, .methodLink "ShortenPrograms$Walk" 71 yP_leaveOut, .instanceMethod yP_leaveOut, .selects "ShortenPrograms$Program" yP_leaveOut yP_leaveOut, .code yP_leaveOut prog_4_method_10_code 5 none, .methodLink "ShortenPrograms$Walk" 51 yP_byteOf, .instanceMethod yP_byteOf, .selects "ShortenPrograms$Program" yP_byteOf yP_byteOf, .code yP_byteOf prog_4_method_11_code 3 (some .int), .methodLink "ShortenPrograms$Program" 32 yP_word, .methodLink "ShortenPrograms$Program" 36 yP_shift, .static yP_shift, .code yP_shift prog_4_method_13_code 1 (some .int), .methodLink "ShortenPrograms$Walk" 67 yW_lowerValue, .instanceMethod yW_lowerValue]
def wA_10 : List Cond := [.code yW_lowerValue prog_5_method_11_code 2 (some .int), .methodLink "ShortenPrograms$Walk" 75 yP_setByte, .instanceMethod yP_setByte, .selects "ShortenPrograms$Program" yP_setByte yP_setByte, .code yP_setByte prog_4_method_12_code 5 none, .methodLink "ShortenPrograms" 192 yW_isLowering, .instanceMethod yW_isLowering, .selects "ShortenPrograms$Walk" yW_isLowering yW_isLowering, .code yW_isLowering prog_5_method_3_code 1 (some .boolean), .methodLink "ShortenPrograms" 195 yW_goOn, .instanceMethod yW_goOn, .selects "ShortenPrograms$Walk" yW_goOn yW_goOn, .code yW_goOn prog_5_method_13_code 1 none, .methodLink "ShortenPrograms" 121 yS_askNext, .instanceMethod yS_askNext, .code yS_askNext prog_1_method_15_code 3 none, .constant "ShortenPrograms" 198 (1000000), .methodLink "ShortenPrograms" 199 yW_findChange, .instanceMethod yW_findChange, .selects "ShortenPrograms$Walk" yW_findChange yW_findChange, .code yW_findChange prog_5_method_8_code 3 (some .boolean), .constant "ShortenPrograms$Walk" 41 (1000000), .methodLink "ShortenPrograms$Walk" 42 yP_has, .methodLink "ShortenPrograms$Walk" 48 yW_endGoingThrough, .instanceMethod yW_endGoingThrough, .code yW_endGoingThrough prog_5_method_9_code 1 none, .methodLink "ShortenPrograms$Walk" 64 yW_startLowering, .instanceMethod yW_startLowering, .code yW_startLowering prog_5_method_7_code 1 none, .methodLink "ShortenPrograms$Walk" 55 yW_canLower, .instanceMethod yW_canLower, .code yW_canLower prog_5_method_10_code 2 (some .boolean), .methodLink "ShortenPrograms$Walk" 58 yW_passOver, .methodLink "ShortenPrograms$Walk" 61 yW_startLeaving, .methodLink "ShortenPrograms" 135 yP_copy, .methodLink "ShortenPrograms" 146 yM_find, .instanceMethod yM_find, .selects "ShortenPrograms$Memory" yM_find yM_find, .code yM_find prog_3_method_6_code 5 (some (.object "ShortenPrograms$Ask")), .methodLink "ShortenPrograms$Memory" 26 yP_mark]
def wA_11 : List Cond := [.methodLink "ShortenPrograms$Memory" 32 yA_isOf, .instanceMethod yA_isOf, .selects "ShortenPrograms$Ask" yA_isOf yA_isOf, .code yA_isOf prog_2_method_6_code 3 (some .boolean), .methodLink "ShortenPrograms$Ask" 32 yP_hasSameWords, .instanceMethod yP_hasSameWords, .selects "ShortenPrograms$Program" yP_hasSameWords yP_hasSameWords, .code yP_hasSameWords prog_4_method_14_code 3 (some .boolean), .methodLink "ShortenPrograms" 203 yS_ask, .instanceMethod yS_ask, .code yS_ask prog_1_method_16_code 1 none, .methodLink "ShortenPrograms" 150 yA_answer, .instanceMethod yA_answer, .selects "ShortenPrograms$Ask" yA_answer yA_answer, .code yA_answer prog_2_method_3_code 1 (some .int), .methodLink "ShortenProgramsLaw" 77 yL_at, .static yL_at, .codeWith yL_at method_8_code 4 (some .int) [(0, 9, 12, 23)], .methodLink "ShortenProgramsLaw" 34 yS_at, .instanceMethod yS_at, .selects "ShortenPrograms" yS_at yS_at, .code yS_at prog_1_method_7_code 2 (some .int), .methodLink "ShortenProgramsLaw" 80 yL_from, .static yL_from, .codeWith yL_from method_9_code 4 (some .int) [(0, 9, 12, 23)], .methodLink "ShortenProgramsLaw" 37 yS_from, .instanceMethod yS_from, .selects "ShortenPrograms" yS_from yS_from, .code yS_from prog_1_method_8_code 2 (some .int), .methodLink "ShortenPrograms" 126 yP_origin, .instanceMethod yP_origin, .selects "ShortenPrograms$Program" yP_origin yP_origin, .code yP_origin prog_4_method_6_code 2 (some .int), .methodLink "ShortenProgramsLaw" 83 yL_known, .static yL_known, .codeWith yL_known method_10_code 7 (some .int) [(0, 14, 17, 23), (0, 14, 21, 32)], .methodLink "ShortenProgramsLaw" 40 yS_known, .instanceMethod yS_known, .selects "ShortenPrograms" yS_known yS_known, .code yS_known prog_1_method_9_code 6 (some .int)]
def wA_12 : List Cond := [.methodLink "ShortenPrograms" 138 yP_leaveOut, .methodLink "ShortenPrograms" 142 yP_setByte, .classLink "ShortenProgramsLaw" 53 "ShortenProgramsModel", .instantiable "ShortenProgramsModel" 27, .methodLink "ShortenProgramsLaw" 55 yD_init, .instanceMethod yD_init, .code yD_init prog_7_method_1_code 3 none, .methodLink "ShortenProgramsModel" 1 ⟨"java/lang/Object", "<init>", "()V"⟩, .fieldLink "ShortenProgramsModel" 35 "ShortenProgramsModel" "thrown" "I", .fieldLink "ShortenProgramsModel" 32 "ShortenProgramsModel" "budget" "I", .fieldLink "ShortenProgramsModel" 38 "ShortenProgramsModel" "state" "I", .fieldLink "ShortenProgramsModel" 41 "ShortenProgramsModel" "size" "I", .fieldLink "ShortenProgramsModel" 7 "ShortenProgramsModel" "word" "[I", .fieldLink "ShortenProgramsModel" 13 "ShortenProgramsModel" "origin" "[I", .fieldLink "ShortenProgramsModel" 66 "ShortenProgramsModel" "candSize" "I", .fieldLink "ShortenProgramsModel" 16 "ShortenProgramsModel" "cand" "[I", .fieldLink "ShortenProgramsModel" 146 "ShortenProgramsModel" "isFirst" "Z", .fieldLink "ShortenProgramsModel" 86 "ShortenProgramsModel" "isLowering" "Z", .fieldLink "ShortenProgramsModel" 96 "ShortenProgramsModel" "someGood" "Z", .fieldLink "ShortenProgramsModel" 99 "ShortenProgramsModel" "wasLowered" "Z", .fieldLink "ShortenProgramsModel" 90 "ShortenProgramsModel" "piece" "I", .fieldLink "ShortenProgramsModel" 93 "ShortenProgramsModel" "place" "I", .fieldLink "ShortenProgramsModel" 73 "ShortenProgramsModel" "atWord" "I", .fieldLink "ShortenProgramsModel" 76 "ShortenProgramsModel" "atByte" "I", .fieldLink "ShortenProgramsModel" 83 "ShortenProgramsModel" "how" "I", .fieldLink "ShortenProgramsModel" 19 "ShortenProgramsModel" "difference" "I", .fieldLink "ShortenProgramsModel" 48 "ShortenProgramsModel" "asks" "I", .fieldLink "ShortenProgramsModel" 23 "ShortenProgramsModel" "askedSize" "[I", .fieldLink "ShortenProgramsModel" 26 "ShortenProgramsModel" "askedWord" "[I", .fieldLink "ShortenProgramsModel" 29 "ShortenProgramsModel" "answer" "[I", .fieldLink "ShortenProgramsModel" 51 "ShortenProgramsModel" "remembered" "I", .fieldLink "ShortenProgramsModel" 54 "ShortenProgramsModel" "good" "I", .fieldLink "ShortenProgramsModel" 57 "ShortenProgramsModel" "leftOut" "I", .fieldLink "ShortenProgramsModel" 60 "ShortenProgramsModel" "lowered" "I", .fieldLink "ShortenProgramsModel" 63 "ShortenProgramsModel" "begun" "I", .lays "ShortenProgramsModel" "ShortenProgramsModel" "thrown" "I", .soleField "ShortenProgramsModel" "thrown", .laysFinal "ShortenProgramsModel" "ShortenProgramsModel" "budget" "I", .soleField "ShortenProgramsModel" "budget", .lays "ShortenProgramsModel" "ShortenProgramsModel" "state" "I"]
def wA_13 : List Cond := [.soleField "ShortenProgramsModel" "state", .lays "ShortenProgramsModel" "ShortenProgramsModel" "size" "I", .soleField "ShortenProgramsModel" "size", .laysFinal "ShortenProgramsModel" "ShortenProgramsModel" "word" "[I", .soleField "ShortenProgramsModel" "word", .laysFinal "ShortenProgramsModel" "ShortenProgramsModel" "origin" "[I", .soleField "ShortenProgramsModel" "origin", .lays "ShortenProgramsModel" "ShortenProgramsModel" "candSize" "I", .soleField "ShortenProgramsModel" "candSize", .laysFinal "ShortenProgramsModel" "ShortenProgramsModel" "cand" "[I", .soleField "ShortenProgramsModel" "cand", .lays "ShortenProgramsModel" "ShortenProgramsModel" "isFirst" "Z", .soleField "ShortenProgramsModel" "isFirst", .lays "ShortenProgramsModel" "ShortenProgramsModel" "isLowering" "Z", .soleField "ShortenProgramsModel" "isLowering", .lays "ShortenProgramsModel" "ShortenProgramsModel" "someGood" "Z", .soleField "ShortenProgramsModel" "someGood", .lays "ShortenProgramsModel" "ShortenProgramsModel" "wasLowered" "Z", .soleField "ShortenProgramsModel" "wasLowered", .lays "ShortenProgramsModel" "ShortenProgramsModel" "piece" "I", .soleField "ShortenProgramsModel" "piece", .lays "ShortenProgramsModel" "ShortenProgramsModel" "place" "I", .soleField "ShortenProgramsModel" "place", .lays "ShortenProgramsModel" "ShortenProgramsModel" "atWord" "I", .soleField "ShortenProgramsModel" "atWord", .lays "ShortenProgramsModel" "ShortenProgramsModel" "atByte" "I", .soleField "ShortenProgramsModel" "atByte", .lays "ShortenProgramsModel" "ShortenProgramsModel" "how" "I", .soleField "ShortenProgramsModel" "how", .lays "ShortenProgramsModel" "ShortenProgramsModel" "difference" "I", .soleField "ShortenProgramsModel" "difference", .lays "ShortenProgramsModel" "ShortenProgramsModel" "asks" "I", .soleField "ShortenProgramsModel" "asks", .laysFinal "ShortenProgramsModel" "ShortenProgramsModel" "askedSize" "[I", .soleField "ShortenProgramsModel" "askedSize", .laysFinal "ShortenProgramsModel" "ShortenProgramsModel" "askedWord" "[I", .soleField "ShortenProgramsModel" "askedWord", .laysFinal "ShortenProgramsModel" "ShortenProgramsModel" "answer" "[I", .soleField "ShortenProgramsModel" "answer", .lays "ShortenProgramsModel" "ShortenProgramsModel" "remembered" "I"]
def wA_14 : List Cond := [.soleField "ShortenProgramsModel" "remembered", .lays "ShortenProgramsModel" "ShortenProgramsModel" "good" "I", .soleField "ShortenProgramsModel" "good", .lays "ShortenProgramsModel" "ShortenProgramsModel" "leftOut" "I", .soleField "ShortenProgramsModel" "leftOut", .lays "ShortenProgramsModel" "ShortenProgramsModel" "lowered" "I", .soleField "ShortenProgramsModel" "lowered", .lays "ShortenProgramsModel" "ShortenProgramsModel" "begun" "I", .soleField "ShortenProgramsModel" "begun", .superclass "ShortenProgramsModel" "java/lang/Object", .methodLink "ShortenProgramsLaw" 60 yD_thrown, .instanceMethod yD_thrown, .selects "ShortenProgramsModel" yD_thrown yD_thrown, .code yD_thrown prog_7_method_2_code 1 (some .int), .methodLink "ShortenProgramsLaw" 59 yD_feed, .instanceMethod yD_feed, .selects "ShortenProgramsModel" yD_feed yD_feed, .code yD_feed prog_7_method_5_code 2 (some .int), .methodLink "ShortenProgramsModel" 44 yD_fail, .instanceMethod yD_fail, .code yD_fail prog_7_method_3_code 2 (some .int), .methodLink "ShortenProgramsLaw" 66 yD_begin, .instanceMethod yD_begin, .selects "ShortenProgramsModel" yD_begin yD_begin, .code yD_begin prog_7_method_22_code 1 none, .methodLink "ShortenProgramsModel" 105 yD_without, .instanceMethod yD_without, .code yD_without prog_7_method_8_code 4 none, .methodLink "ShortenProgramsModel" 140 yD_put, .instanceMethod yD_put, .code yD_put prog_7_method_21_code 2 none, .methodLink "ShortenProgramsLaw" 76 yD_judge, .instanceMethod yD_judge, .selects "ShortenProgramsModel" yD_judge yD_judge, .code yD_judge prog_7_method_23_code 2 (some .int), .methodLink "ShortenProgramsModel" 112 yD_beginLeaving, .instanceMethod yD_beginLeaving, .code yD_beginLeaving prog_7_method_12_code 2 none, .methodLink "ShortenProgramsModel" 143 yD_answered, .instanceMethod yD_answered]
def wA_15 : List Cond := [.code yD_answered prog_7_method_19_code 3 none, .methodLink "ShortenProgramsModel" 127 yD_takeLeaving, .instanceMethod yD_takeLeaving, .code yD_takeLeaving prog_7_method_17_code 3 none, .methodLink "ShortenProgramsModel" 130 yD_takeLowering, .instanceMethod yD_takeLowering, .code yD_takeLowering prog_7_method_18_code 1 none, .methodLink "ShortenProgramsModel" 124 yD_nextByte, .instanceMethod yD_nextByte, .code yD_nextByte prog_7_method_14_code 1 none, .methodLink "ShortenProgramsModel" 149 yD_goOn, .instanceMethod yD_goOn, .code yD_goOn prog_7_method_20_code 2 none, .methodLink "ShortenProgramsModel" 133 yD_prepare, .instanceMethod yD_prepare, .code yD_prepare prog_7_method_16_code 2 (some .boolean), .methodLink "ShortenProgramsModel" 109 yD_endPass, .instanceMethod yD_endPass, .code yD_endPass prog_7_method_15_code 2 none, .methodLink "ShortenProgramsModel" 102 yD_beginLowering, .instanceMethod yD_beginLowering, .code yD_beginLowering prog_7_method_13_code 1 none, .methodLink "ShortenProgramsModel" 116 yD_lowerTo, .instanceMethod yD_lowerTo, .code yD_lowerTo prog_7_method_11_code 3 (some .int), .methodLink "ShortenProgramsModel" 79 yD_byteOf, .instanceMethod yD_byteOf, .code yD_byteOf prog_7_method_10_code 3 (some .int), .methodLink "ShortenProgramsModel" 120 yD_withByte, .instanceMethod yD_withByte, .code yD_withByte prog_7_method_9_code 5 none, .methodLink "ShortenProgramsModel" 137 yD_find, .instanceMethod yD_find, .code yD_find prog_7_method_7_code 2 (some .int), .methodLink "ShortenProgramsModel" 69 yD_isAsked, .instanceMethod yD_isAsked, .code yD_isAsked prog_7_method_6_code 3 (some .boolean), .methodLink "ShortenProgramsLaw" 69 yD_asked, .instanceMethod yD_asked, .selects "ShortenProgramsModel" yD_asked yD_asked]
def wA_16 : List Cond := [.code yD_asked prog_7_method_24_code 2 (some .int), .methodLink "ShortenProgramsModel" 152 yD_within, .static yD_within, .code yD_within prog_7_method_4_code 3 (some .boolean), .methodLink "ShortenProgramsLaw" 73 yD_size, .instanceMethod yD_size, .selects "ShortenProgramsModel" yD_size yD_size, .code yD_size prog_7_method_25_code 1 (some .int), .methodLink "ShortenProgramsLaw" 79 yD_at, .instanceMethod yD_at, .selects "ShortenProgramsModel" yD_at yD_at, .code yD_at prog_7_method_26_code 2 (some .int), .methodLink "ShortenProgramsLaw" 82 yD_from, .instanceMethod yD_from, .selects "ShortenProgramsModel" yD_from yD_from, .code yD_from prog_7_method_27_code 2 (some .int), .methodLink "ShortenProgramsLaw" 86 yD_known, .instanceMethod yD_known, .selects "ShortenProgramsModel" yD_known yD_known, .code yD_known prog_7_method_28_code 8 (some .int), .methodLink "ShortenProgramsLaw" 90 yD_count, .instanceMethod yD_count, .selects "ShortenProgramsModel" yD_count yD_count, .code yD_count prog_7_method_29_code 2 (some .int), .arrayClass .long, .sameMethod "java/lang/Throwable" "java/lang/Throwable" "fillInStackTrace" "(I)Ljava/lang/Throwable;", .selects rS yS_startAfresh yS_startAfresh, .selects "java/lang/Throwable" ⟨"java/lang/Throwable", "fillInStackTrace", "(I)Ljava/lang/Throwable;"⟩ ⟨"java/lang/Throwable", "fillInStackTrace", "(I)Ljava/lang/Throwable;"⟩, .selects rS yS_openAsk yS_openAsk, .selects rS yS_takeFirst yS_takeFirst, .selects rW yW_startGoingThrough yW_startGoingThrough, .selects rS yS_take yS_take, .selects rW yW_nextByte yW_nextByte, .selects rW yW_lowerValue yW_lowerValue, .selects rS yS_askNext yS_askNext, .selects rW yW_endGoingThrough yW_endGoingThrough, .selects rW yW_startLowering yW_startLowering, .selects rW yW_canLower yW_canLower, .selects rS yS_ask yS_ask, .selects rD yD_fail yD_fail]
def wA_17 : List Cond := [.selects rD yD_without yD_without, .selects rD yD_put yD_put, .selects rD yD_beginLeaving yD_beginLeaving, .selects rD yD_answered yD_answered, .selects rD yD_takeLeaving yD_takeLeaving, .selects rD yD_takeLowering yD_takeLowering, .selects rD yD_nextByte yD_nextByte, .selects rD yD_goOn yD_goOn, .selects rD yD_prepare yD_prepare, .selects rD yD_endPass yD_endPass, .selects rD yD_beginLowering yD_beginLowering, .selects rD yD_lowerTo yD_lowerTo, .selects rD yD_byteOf yD_byteOf, .selects rD yD_withByte yD_withByte, .selects rD yD_find yD_find, .selects rD yD_isAsked yD_isAsked]
def wA : List Cond := wA_0 ++ (wA_1 ++ (wA_2 ++ (wA_3 ++ (wA_4 ++ (wA_5 ++ (wA_6 ++ (wA_7 ++ (wA_8 ++ (wA_9 ++ (wA_10 ++ (wA_11 ++ (wA_12 ++ (wA_13 ++ (wA_14 ++ (wA_15 ++ (wA_16 ++ (wA_17)))))))))))))))))
theorem wA_s0 : ∀ w ∈ wA_0, w ∈ wA := fun w h => (List.mem_append_left _ h)
theorem wA_s1 : ∀ w ∈ wA_1, w ∈ wA := fun w h => (List.mem_append_right _ (List.mem_append_left _ h))
theorem wA_s2 : ∀ w ∈ wA_2, w ∈ wA := fun w h => (List.mem_append_right _ (List.mem_append_right _ (List.mem_append_left _ h)))
theorem wA_s3 : ∀ w ∈ wA_3, w ∈ wA := fun w h => (List.mem_append_right _ (List.mem_append_right _ (List.mem_append_right _ (List.mem_append_left _ h))))
theorem wA_s4 : ∀ w ∈ wA_4, w ∈ wA := fun w h => (List.mem_append_right _ (List.mem_append_right _ (List.mem_append_right _ (List.mem_append_right _ (List.mem_append_left _ h)))))
theorem wA_s5 : ∀ w ∈ wA_5, w ∈ wA := fun w h => (List.mem_append_right _ (List.mem_append_right _ (List.mem_append_right _ (List.mem_append_right _ (List.mem_append_right _ (List.mem_append_left _ h))))))
theorem wA_s6 : ∀ w ∈ wA_6, w ∈ wA := fun w h => (List.mem_append_right _ (List.mem_append_right _ (List.mem_append_right _ (List.mem_append_right _ (List.mem_append_right _ (List.mem_append_right _ (List.mem_append_left _ h)))))))
theorem wA_s7 : ∀ w ∈ wA_7, w ∈ wA := fun w h => (List.mem_append_right _ (List.mem_append_right _ (List.mem_append_right _ (List.mem_append_right _ (List.mem_append_right _ (List.mem_append_right _ (List.mem_append_right _ (List.mem_append_left _ h))))))))
theorem wA_s8 : ∀ w ∈ wA_8, w ∈ wA := fun w h => (List.mem_append_right _ (List.mem_append_right _ (List.mem_append_right _ (List.mem_append_right _ (List.mem_append_right _ (List.mem_append_right _ (List.mem_append_right _ (List.mem_append_right _ (List.mem_append_left _ h)))))))))
theorem wA_s9 : ∀ w ∈ wA_9, w ∈ wA := fun w h => (List.mem_append_right _ (List.mem_append_right _ (List.mem_append_right _ (List.mem_append_right _ (List.mem_append_right _ (List.mem_append_right _ (List.mem_append_right _ (List.mem_append_right _ (List.mem_append_right _ (List.mem_append_left _ h))))))))))
theorem wA_s10 : ∀ w ∈ wA_10, w ∈ wA := fun w h => (List.mem_append_right _ (List.mem_append_right _ (List.mem_append_right _ (List.mem_append_right _ (List.mem_append_right _ (List.mem_append_right _ (List.mem_append_right _ (List.mem_append_right _ (List.mem_append_right _ (List.mem_append_right _ (List.mem_append_left _ h)))))))))))
theorem wA_s11 : ∀ w ∈ wA_11, w ∈ wA := fun w h => (List.mem_append_right _ (List.mem_append_right _ (List.mem_append_right _ (List.mem_append_right _ (List.mem_append_right _ (List.mem_append_right _ (List.mem_append_right _ (List.mem_append_right _ (List.mem_append_right _ (List.mem_append_right _ (List.mem_append_right _ (List.mem_append_left _ h))))))))))))
theorem wA_s12 : ∀ w ∈ wA_12, w ∈ wA := fun w h => (List.mem_append_right _ (List.mem_append_right _ (List.mem_append_right _ (List.mem_append_right _ (List.mem_append_right _ (List.mem_append_right _ (List.mem_append_right _ (List.mem_append_right _ (List.mem_append_right _ (List.mem_append_right _ (List.mem_append_right _ (List.mem_append_right _ (List.mem_append_left _ h)))))))))))))
theorem wA_s13 : ∀ w ∈ wA_13, w ∈ wA := fun w h => (List.mem_append_right _ (List.mem_append_right _ (List.mem_append_right _ (List.mem_append_right _ (List.mem_append_right _ (List.mem_append_right _ (List.mem_append_right _ (List.mem_append_right _ (List.mem_append_right _ (List.mem_append_right _ (List.mem_append_right _ (List.mem_append_right _ (List.mem_append_right _ (List.mem_append_left _ h))))))))))))))
theorem wA_s14 : ∀ w ∈ wA_14, w ∈ wA := fun w h => (List.mem_append_right _ (List.mem_append_right _ (List.mem_append_right _ (List.mem_append_right _ (List.mem_append_right _ (List.mem_append_right _ (List.mem_append_right _ (List.mem_append_right _ (List.mem_append_right _ (List.mem_append_right _ (List.mem_append_right _ (List.mem_append_right _ (List.mem_append_right _ (List.mem_append_right _ (List.mem_append_left _ h)))))))))))))))
theorem wA_s15 : ∀ w ∈ wA_15, w ∈ wA := fun w h => (List.mem_append_right _ (List.mem_append_right _ (List.mem_append_right _ (List.mem_append_right _ (List.mem_append_right _ (List.mem_append_right _ (List.mem_append_right _ (List.mem_append_right _ (List.mem_append_right _ (List.mem_append_right _ (List.mem_append_right _ (List.mem_append_right _ (List.mem_append_right _ (List.mem_append_right _ (List.mem_append_right _ (List.mem_append_left _ h))))))))))))))))
theorem wA_s16 : ∀ w ∈ wA_16, w ∈ wA := fun w h => (List.mem_append_right _ (List.mem_append_right _ (List.mem_append_right _ (List.mem_append_right _ (List.mem_append_right _ (List.mem_append_right _ (List.mem_append_right _ (List.mem_append_right _ (List.mem_append_right _ (List.mem_append_right _ (List.mem_append_right _ (List.mem_append_right _ (List.mem_append_right _ (List.mem_append_right _ (List.mem_append_right _ (List.mem_append_right _ (List.mem_append_left _ h)))))))))))))))))
theorem wA_s17 : ∀ w ∈ wA_17, w ∈ wA := fun w h => (List.mem_append_right _ (List.mem_append_right _ (List.mem_append_right _ (List.mem_append_right _ (List.mem_append_right _ (List.mem_append_right _ (List.mem_append_right _ (List.mem_append_right _ (List.mem_append_right _ (List.mem_append_right _ (List.mem_append_right _ (List.mem_append_right _ (List.mem_append_right _ (List.mem_append_right _ (List.mem_append_right _ (List.mem_append_right _ (List.mem_append_right _ h)))))))))))))))))
theorem wi_0 : (.initialized "ShortenProgramsLaw" : Cond) ∈ wA := wA_s0 _ (List.mem_of_getElem? (i := 0) rfl)
theorem wi_1 : (.initialized "ShortenPrograms" : Cond) ∈ wA := wA_s0 _ (List.mem_of_getElem? (i := 1) rfl)
theorem wi_2 : (.initialized "java/lang/Math" : Cond) ∈ wA := wA_s0 _ (List.mem_of_getElem? (i := 2) rfl)
theorem wi_3 : (.initialized "ShortenPrograms$Program" : Cond) ∈ wA := wA_s0 _ (List.mem_of_getElem? (i := 3) rfl)
theorem wi_4 : (.initialized "ShortenPrograms$Memory" : Cond) ∈ wA := wA_s0 _ (List.mem_of_getElem? (i := 4) rfl)
theorem wi_5 : (.initialized "ShortenPrograms$Walk" : Cond) ∈ wA := wA_s0 _ (List.mem_of_getElem? (i := 5) rfl)
theorem wi_6 : (.initialized "ShortenProgramsModel" : Cond) ∈ wA := wA_s0 _ (List.mem_of_getElem? (i := 6) rfl)
theorem wi_7 : (.initialized "java/lang/Throwable" : Cond) ∈ wA := wA_s0 _ (List.mem_of_getElem? (i := 7) rfl)
theorem wi_8 : (.initialized "java/lang/Exception" : Cond) ∈ wA := wA_s0 _ (List.mem_of_getElem? (i := 8) rfl)
theorem wi_9 : (.initialized "java/lang/RuntimeException" : Cond) ∈ wA := wA_s0 _ (List.mem_of_getElem? (i := 9) rfl)
theorem wi_10 : (.initialized "java/lang/UnsupportedOperationException" : Cond) ∈ wA := wA_s0 _ (List.mem_of_getElem? (i := 10) rfl)
theorem wi_11 : (.initialized "java/lang/IllegalStateException" : Cond) ∈ wA := wA_s0 _ (List.mem_of_getElem? (i := 11) rfl)
theorem wi_12 : (.initialized "ShortenPrograms$Ask" : Cond) ∈ wA := wA_s0 _ (List.mem_of_getElem? (i := 12) rfl)
theorem wi_13 : (.initialized "java/lang/IndexOutOfBoundsException" : Cond) ∈ wA := wA_s0 _ (List.mem_of_getElem? (i := 13) rfl)
theorem wi_14 : (.initialized "java/lang/IllegalArgumentException" : Cond) ∈ wA := wA_s0 _ (List.mem_of_getElem? (i := 14) rfl)
theorem wi_15 : (.classLink "ShortenProgramsLaw" 8 "ShortenPrograms" : Cond) ∈ wA := wA_s0 _ (List.mem_of_getElem? (i := 15) rfl)
theorem wi_16 : (.instantiable "ShortenPrograms" 11 : Cond) ∈ wA := wA_s0 _ (List.mem_of_getElem? (i := 16) rfl)
theorem wi_17 : (.methodLink "ShortenProgramsLaw" 50 yS_init : Cond) ∈ wA := wA_s0 _ (List.mem_of_getElem? (i := 17) rfl)
theorem wi_18 : (.instanceMethod yS_init : Cond) ∈ wA := wA_s0 _ (List.mem_of_getElem? (i := 18) rfl)
theorem wi_19 : (.code yS_init prog_1_method_1_code 2 none : Cond) ∈ wA := wA_s0 _ (List.mem_of_getElem? (i := 19) rfl)
theorem wi_20 : (.methodLink "ShortenPrograms" 1 ⟨"java/lang/Object", "<init>", "()V"⟩ : Cond) ∈ wA := wA_s0 _ (List.mem_of_getElem? (i := 20) rfl)
theorem wi_21 : (.instanceMethod ⟨"java/lang/Object", "<init>", "()V"⟩ : Cond) ∈ wA := wA_s0 _ (List.mem_of_getElem? (i := 21) rfl)
theorem wi_22 : (.code ⟨"java/lang/Object", "<init>", "()V"⟩ object_method_1_code 1 none : Cond) ∈ wA := wA_s0 _ (List.mem_of_getElem? (i := 22) rfl)
theorem wi_23 : (.constantLong "ShortenPrograms" 9 (600) : Cond) ∈ wA := wA_s0 _ (List.mem_of_getElem? (i := 23) rfl)
theorem wi_24 : (.methodLink "ShortenPrograms" 11 ⟨"java/lang/Math", "floorMod", "(JJ)J"⟩ : Cond) ∈ wA := wA_s0 _ (List.mem_of_getElem? (i := 24) rfl)
theorem wi_25 : (.static ⟨"java/lang/Math", "floorMod", "(JJ)J"⟩ : Cond) ∈ wA := wA_s0 _ (List.mem_of_getElem? (i := 25) rfl)
theorem wi_26 : (.code ⟨"java/lang/Math", "floorMod", "(JJ)J"⟩ prog_12_method_52_code 6 (some .long) : Cond) ∈ wA := wA_s0 _ (List.mem_of_getElem? (i := 26) rfl)
theorem wi_27 : (.classLink "ShortenPrograms" 21 "ShortenPrograms$Program" : Cond) ∈ wA := wA_s0 _ (List.mem_of_getElem? (i := 27) rfl)
theorem wi_28 : (.instantiable "ShortenPrograms$Program" 3 : Cond) ∈ wA := wA_s0 _ (List.mem_of_getElem? (i := 28) rfl)
theorem wi_29 : (.instanceMethod yP_init : Cond) ∈ wA := wA_s0 _ (List.mem_of_getElem? (i := 29) rfl)
theorem wi_30 : (.code yP_init prog_4_method_1_code 1 none : Cond) ∈ wA := wA_s0 _ (List.mem_of_getElem? (i := 30) rfl)
theorem wi_31 : (.methodLink "ShortenPrograms$Program" 3 ⟨"java/lang/Object", "<init>", "()V"⟩ : Cond) ∈ wA := wA_s0 _ (List.mem_of_getElem? (i := 31) rfl)
theorem wi_32 : (.fieldLink "ShortenPrograms$Program" 9 "ShortenPrograms$Program" "words" "[I" : Cond) ∈ wA := wA_s0 _ (List.mem_of_getElem? (i := 32) rfl)
theorem wi_33 : (.fieldLink "ShortenPrograms$Program" 15 "ShortenPrograms$Program" "origins" "[I" : Cond) ∈ wA := wA_s0 _ (List.mem_of_getElem? (i := 33) rfl)
theorem wi_34 : (.fieldLink "ShortenPrograms$Program" 18 "ShortenPrograms$Program" "length" "I" : Cond) ∈ wA := wA_s0 _ (List.mem_of_getElem? (i := 34) rfl)
theorem wi_35 : (.laysFinal "ShortenPrograms$Program" "ShortenPrograms$Program" "words" "[I" : Cond) ∈ wA := wA_s0 _ (List.mem_of_getElem? (i := 35) rfl)
theorem wi_36 : (.soleField "ShortenPrograms$Program" "words" : Cond) ∈ wA := wA_s0 _ (List.mem_of_getElem? (i := 36) rfl)
theorem wi_37 : (.laysFinal "ShortenPrograms$Program" "ShortenPrograms$Program" "origins" "[I" : Cond) ∈ wA := wA_s0 _ (List.mem_of_getElem? (i := 37) rfl)
theorem wi_38 : (.soleField "ShortenPrograms$Program" "origins" : Cond) ∈ wA := wA_s0 _ (List.mem_of_getElem? (i := 38) rfl)
theorem wi_39 : (.lays "ShortenPrograms$Program" "ShortenPrograms$Program" "length" "I" : Cond) ∈ wA := wA_s0 _ (List.mem_of_getElem? (i := 39) rfl)
theorem wi_40 : (.soleField "ShortenPrograms$Program" "length" : Cond) ∈ wA := wA_s1 _ (List.mem_of_getElem? (i := 0) rfl)
theorem wi_41 : (.superclass "ShortenPrograms$Program" "java/lang/Object" : Cond) ∈ wA := wA_s1 _ (List.mem_of_getElem? (i := 1) rfl)
theorem wi_42 : (.arrayClass .int : Cond) ∈ wA := wA_s1 _ (List.mem_of_getElem? (i := 2) rfl)
theorem wi_43 : (.classLink "ShortenPrograms" 31 "ShortenPrograms$Memory" : Cond) ∈ wA := wA_s1 _ (List.mem_of_getElem? (i := 3) rfl)
theorem wi_44 : (.instantiable "ShortenPrograms$Memory" 2 : Cond) ∈ wA := wA_s1 _ (List.mem_of_getElem? (i := 4) rfl)
theorem wi_45 : (.instanceMethod yM_init : Cond) ∈ wA := wA_s1 _ (List.mem_of_getElem? (i := 5) rfl)
theorem wi_46 : (.code yM_init prog_3_method_1_code 1 none : Cond) ∈ wA := wA_s1 _ (List.mem_of_getElem? (i := 6) rfl)
theorem wi_47 : (.methodLink "ShortenPrograms$Memory" 3 ⟨"java/lang/Object", "<init>", "()V"⟩ : Cond) ∈ wA := wA_s1 _ (List.mem_of_getElem? (i := 7) rfl)
theorem wi_48 : (.classLink "ShortenPrograms$Memory" 9 "ShortenPrograms$Ask" : Cond) ∈ wA := wA_s1 _ (List.mem_of_getElem? (i := 8) rfl)
theorem wi_49 : (.fieldLink "ShortenPrograms$Memory" 11 "ShortenPrograms$Memory" "asks" "[LShortenPrograms$Ask;" : Cond) ∈ wA := wA_s1 _ (List.mem_of_getElem? (i := 9) rfl)
theorem wi_50 : (.fieldLink "ShortenPrograms$Memory" 17 "ShortenPrograms$Memory" "filled" "I" : Cond) ∈ wA := wA_s1 _ (List.mem_of_getElem? (i := 10) rfl)
theorem wi_51 : (.laysFinal "ShortenPrograms$Memory" "ShortenPrograms$Memory" "asks" "[LShortenPrograms$Ask;" : Cond) ∈ wA := wA_s1 _ (List.mem_of_getElem? (i := 11) rfl)
theorem wi_52 : (.soleField "ShortenPrograms$Memory" "asks" : Cond) ∈ wA := wA_s1 _ (List.mem_of_getElem? (i := 12) rfl)
theorem wi_53 : (.lays "ShortenPrograms$Memory" "ShortenPrograms$Memory" "filled" "I" : Cond) ∈ wA := wA_s1 _ (List.mem_of_getElem? (i := 13) rfl)
theorem wi_54 : (.soleField "ShortenPrograms$Memory" "filled" : Cond) ∈ wA := wA_s1 _ (List.mem_of_getElem? (i := 14) rfl)
theorem wi_55 : (.superclass "ShortenPrograms$Memory" "java/lang/Object" : Cond) ∈ wA := wA_s1 _ (List.mem_of_getElem? (i := 15) rfl)
theorem wi_56 : (.classLink "ShortenPrograms" 38 "ShortenPrograms$Walk" : Cond) ∈ wA := wA_s1 _ (List.mem_of_getElem? (i := 16) rfl)
theorem wi_57 : (.instantiable "ShortenPrograms$Walk" 8 : Cond) ∈ wA := wA_s1 _ (List.mem_of_getElem? (i := 17) rfl)
theorem wi_58 : (.instanceMethod yW_init : Cond) ∈ wA := wA_s1 _ (List.mem_of_getElem? (i := 18) rfl)
theorem wi_59 : (.code yW_init prog_5_method_1_code 1 none : Cond) ∈ wA := wA_s1 _ (List.mem_of_getElem? (i := 19) rfl)
theorem wi_60 : (.methodLink "ShortenPrograms$Walk" 3 ⟨"java/lang/Object", "<init>", "()V"⟩ : Cond) ∈ wA := wA_s1 _ (List.mem_of_getElem? (i := 20) rfl)
theorem wi_61 : (.fieldLink "ShortenPrograms$Walk" 15 "ShortenPrograms$Walk" "step" "I" : Cond) ∈ wA := wA_s1 _ (List.mem_of_getElem? (i := 21) rfl)
theorem wi_62 : (.fieldLink "ShortenPrograms$Walk" 22 "ShortenPrograms$Walk" "piece" "I" : Cond) ∈ wA := wA_s1 _ (List.mem_of_getElem? (i := 22) rfl)
theorem wi_63 : (.fieldLink "ShortenPrograms$Walk" 25 "ShortenPrograms$Walk" "place" "I" : Cond) ∈ wA := wA_s1 _ (List.mem_of_getElem? (i := 23) rfl)
theorem wi_64 : (.fieldLink "ShortenPrograms$Walk" 28 "ShortenPrograms$Walk" "someLeftOut" "Z" : Cond) ∈ wA := wA_s1 _ (List.mem_of_getElem? (i := 24) rfl)
theorem wi_65 : (.fieldLink "ShortenPrograms$Walk" 32 "ShortenPrograms$Walk" "wordPlace" "I" : Cond) ∈ wA := wA_s1 _ (List.mem_of_getElem? (i := 25) rfl)
theorem wi_66 : (.fieldLink "ShortenPrograms$Walk" 35 "ShortenPrograms$Walk" "bytePlace" "I" : Cond) ∈ wA := wA_s1 _ (List.mem_of_getElem? (i := 26) rfl)
theorem wi_67 : (.fieldLink "ShortenPrograms$Walk" 38 "ShortenPrograms$Walk" "someLowered" "Z" : Cond) ∈ wA := wA_s1 _ (List.mem_of_getElem? (i := 27) rfl)
theorem wi_68 : (.fieldLink "ShortenPrograms$Walk" 9 "ShortenPrograms$Walk" "timesLeaving" "I" : Cond) ∈ wA := wA_s1 _ (List.mem_of_getElem? (i := 28) rfl)
theorem wi_69 : (.lays "ShortenPrograms$Walk" "ShortenPrograms$Walk" "step" "I" : Cond) ∈ wA := wA_s1 _ (List.mem_of_getElem? (i := 29) rfl)
theorem wi_70 : (.soleField "ShortenPrograms$Walk" "step" : Cond) ∈ wA := wA_s1 _ (List.mem_of_getElem? (i := 30) rfl)
theorem wi_71 : (.lays "ShortenPrograms$Walk" "ShortenPrograms$Walk" "piece" "I" : Cond) ∈ wA := wA_s1 _ (List.mem_of_getElem? (i := 31) rfl)
theorem wi_72 : (.soleField "ShortenPrograms$Walk" "piece" : Cond) ∈ wA := wA_s1 _ (List.mem_of_getElem? (i := 32) rfl)
theorem wi_73 : (.lays "ShortenPrograms$Walk" "ShortenPrograms$Walk" "place" "I" : Cond) ∈ wA := wA_s1 _ (List.mem_of_getElem? (i := 33) rfl)
theorem wi_74 : (.soleField "ShortenPrograms$Walk" "place" : Cond) ∈ wA := wA_s1 _ (List.mem_of_getElem? (i := 34) rfl)
theorem wi_75 : (.lays "ShortenPrograms$Walk" "ShortenPrograms$Walk" "someLeftOut" "Z" : Cond) ∈ wA := wA_s1 _ (List.mem_of_getElem? (i := 35) rfl)
theorem wi_76 : (.soleField "ShortenPrograms$Walk" "someLeftOut" : Cond) ∈ wA := wA_s1 _ (List.mem_of_getElem? (i := 36) rfl)
theorem wi_77 : (.lays "ShortenPrograms$Walk" "ShortenPrograms$Walk" "wordPlace" "I" : Cond) ∈ wA := wA_s1 _ (List.mem_of_getElem? (i := 37) rfl)
theorem wi_78 : (.soleField "ShortenPrograms$Walk" "wordPlace" : Cond) ∈ wA := wA_s1 _ (List.mem_of_getElem? (i := 38) rfl)
theorem wi_79 : (.lays "ShortenPrograms$Walk" "ShortenPrograms$Walk" "bytePlace" "I" : Cond) ∈ wA := wA_s1 _ (List.mem_of_getElem? (i := 39) rfl)
theorem wi_80 : (.soleField "ShortenPrograms$Walk" "bytePlace" : Cond) ∈ wA := wA_s2 _ (List.mem_of_getElem? (i := 0) rfl)
theorem wi_81 : (.lays "ShortenPrograms$Walk" "ShortenPrograms$Walk" "someLowered" "Z" : Cond) ∈ wA := wA_s2 _ (List.mem_of_getElem? (i := 1) rfl)
theorem wi_82 : (.soleField "ShortenPrograms$Walk" "someLowered" : Cond) ∈ wA := wA_s2 _ (List.mem_of_getElem? (i := 2) rfl)
theorem wi_83 : (.lays "ShortenPrograms$Walk" "ShortenPrograms$Walk" "timesLeaving" "I" : Cond) ∈ wA := wA_s2 _ (List.mem_of_getElem? (i := 3) rfl)
theorem wi_84 : (.soleField "ShortenPrograms$Walk" "timesLeaving" : Cond) ∈ wA := wA_s2 _ (List.mem_of_getElem? (i := 4) rfl)
theorem wi_85 : (.superclass "ShortenPrograms$Walk" "java/lang/Object" : Cond) ∈ wA := wA_s2 _ (List.mem_of_getElem? (i := 5) rfl)
theorem wi_86 : (.fieldLink "ShortenPrograms" 17 "ShortenPrograms" "budget" "I" : Cond) ∈ wA := wA_s2 _ (List.mem_of_getElem? (i := 6) rfl)
theorem wi_87 : (.fieldLink "ShortenPrograms" 24 "ShortenPrograms" "current" "LShortenPrograms$Program;" : Cond) ∈ wA := wA_s2 _ (List.mem_of_getElem? (i := 7) rfl)
theorem wi_88 : (.fieldLink "ShortenPrograms" 28 "ShortenPrograms" "candidate" "LShortenPrograms$Program;" : Cond) ∈ wA := wA_s2 _ (List.mem_of_getElem? (i := 8) rfl)
theorem wi_89 : (.fieldLink "ShortenPrograms" 34 "ShortenPrograms" "memory" "LShortenPrograms$Memory;" : Cond) ∈ wA := wA_s2 _ (List.mem_of_getElem? (i := 9) rfl)
theorem wi_90 : (.fieldLink "ShortenPrograms" 41 "ShortenPrograms" "walk" "LShortenPrograms$Walk;" : Cond) ∈ wA := wA_s2 _ (List.mem_of_getElem? (i := 10) rfl)
theorem wi_91 : (.fieldLink "ShortenPrograms" 45 "ShortenPrograms" "state" "I" : Cond) ∈ wA := wA_s2 _ (List.mem_of_getElem? (i := 11) rfl)
theorem wi_92 : (.fieldLink "ShortenPrograms" 48 "ShortenPrograms" "theDifference" "I" : Cond) ∈ wA := wA_s2 _ (List.mem_of_getElem? (i := 12) rfl)
theorem wi_93 : (.fieldLink "ShortenPrograms" 156 "ShortenPrograms" "remembered" "I" : Cond) ∈ wA := wA_s2 _ (List.mem_of_getElem? (i := 13) rfl)
theorem wi_94 : (.fieldLink "ShortenPrograms" 159 "ShortenPrograms" "good" "I" : Cond) ∈ wA := wA_s2 _ (List.mem_of_getElem? (i := 14) rfl)
theorem wi_95 : (.fieldLink "ShortenPrograms" 162 "ShortenPrograms" "leftOut" "I" : Cond) ∈ wA := wA_s2 _ (List.mem_of_getElem? (i := 15) rfl)
theorem wi_96 : (.fieldLink "ShortenPrograms" 165 "ShortenPrograms" "lowered" "I" : Cond) ∈ wA := wA_s2 _ (List.mem_of_getElem? (i := 16) rfl)
theorem wi_97 : (.laysFinal "ShortenPrograms" "ShortenPrograms" "budget" "I" : Cond) ∈ wA := wA_s2 _ (List.mem_of_getElem? (i := 17) rfl)
theorem wi_98 : (.soleField "ShortenPrograms" "budget" : Cond) ∈ wA := wA_s2 _ (List.mem_of_getElem? (i := 18) rfl)
theorem wi_99 : (.laysFinal "ShortenPrograms" "ShortenPrograms" "current" "LShortenPrograms$Program;" : Cond) ∈ wA := wA_s2 _ (List.mem_of_getElem? (i := 19) rfl)
theorem wi_100 : (.soleField "ShortenPrograms" "current" : Cond) ∈ wA := wA_s2 _ (List.mem_of_getElem? (i := 20) rfl)
theorem wi_101 : (.laysFinal "ShortenPrograms" "ShortenPrograms" "candidate" "LShortenPrograms$Program;" : Cond) ∈ wA := wA_s2 _ (List.mem_of_getElem? (i := 21) rfl)
theorem wi_102 : (.soleField "ShortenPrograms" "candidate" : Cond) ∈ wA := wA_s2 _ (List.mem_of_getElem? (i := 22) rfl)
theorem wi_103 : (.laysFinal "ShortenPrograms" "ShortenPrograms" "memory" "LShortenPrograms$Memory;" : Cond) ∈ wA := wA_s2 _ (List.mem_of_getElem? (i := 23) rfl)
theorem wi_104 : (.soleField "ShortenPrograms" "memory" : Cond) ∈ wA := wA_s2 _ (List.mem_of_getElem? (i := 24) rfl)
theorem wi_105 : (.laysFinal "ShortenPrograms" "ShortenPrograms" "walk" "LShortenPrograms$Walk;" : Cond) ∈ wA := wA_s2 _ (List.mem_of_getElem? (i := 25) rfl)
theorem wi_106 : (.soleField "ShortenPrograms" "walk" : Cond) ∈ wA := wA_s2 _ (List.mem_of_getElem? (i := 26) rfl)
theorem wi_107 : (.lays "ShortenPrograms" "ShortenPrograms" "state" "I" : Cond) ∈ wA := wA_s2 _ (List.mem_of_getElem? (i := 27) rfl)
theorem wi_108 : (.soleField "ShortenPrograms" "state" : Cond) ∈ wA := wA_s2 _ (List.mem_of_getElem? (i := 28) rfl)
theorem wi_109 : (.lays "ShortenPrograms" "ShortenPrograms" "theDifference" "I" : Cond) ∈ wA := wA_s2 _ (List.mem_of_getElem? (i := 29) rfl)
theorem wi_110 : (.soleField "ShortenPrograms" "theDifference" : Cond) ∈ wA := wA_s2 _ (List.mem_of_getElem? (i := 30) rfl)
theorem wi_111 : (.lays "ShortenPrograms" "ShortenPrograms" "remembered" "I" : Cond) ∈ wA := wA_s2 _ (List.mem_of_getElem? (i := 31) rfl)
theorem wi_112 : (.soleField "ShortenPrograms" "remembered" : Cond) ∈ wA := wA_s2 _ (List.mem_of_getElem? (i := 32) rfl)
theorem wi_113 : (.lays "ShortenPrograms" "ShortenPrograms" "good" "I" : Cond) ∈ wA := wA_s2 _ (List.mem_of_getElem? (i := 33) rfl)
theorem wi_114 : (.soleField "ShortenPrograms" "good" : Cond) ∈ wA := wA_s2 _ (List.mem_of_getElem? (i := 34) rfl)
theorem wi_115 : (.lays "ShortenPrograms" "ShortenPrograms" "leftOut" "I" : Cond) ∈ wA := wA_s2 _ (List.mem_of_getElem? (i := 35) rfl)
theorem wi_116 : (.soleField "ShortenPrograms" "leftOut" : Cond) ∈ wA := wA_s2 _ (List.mem_of_getElem? (i := 36) rfl)
theorem wi_117 : (.lays "ShortenPrograms" "ShortenPrograms" "lowered" "I" : Cond) ∈ wA := wA_s2 _ (List.mem_of_getElem? (i := 37) rfl)
theorem wi_118 : (.soleField "ShortenPrograms" "lowered" : Cond) ∈ wA := wA_s2 _ (List.mem_of_getElem? (i := 38) rfl)
theorem wi_119 : (.superclass "ShortenPrograms" "java/lang/Object" : Cond) ∈ wA := wA_s2 _ (List.mem_of_getElem? (i := 39) rfl)
theorem wi_120 : (.methodLink "ShortenProgramsLaw" 87 yS_count : Cond) ∈ wA := wA_s3 _ (List.mem_of_getElem? (i := 0) rfl)
theorem wi_121 : (.instanceMethod yS_count : Cond) ∈ wA := wA_s3 _ (List.mem_of_getElem? (i := 1) rfl)
theorem wi_122 : (.selects "ShortenPrograms" yS_count yS_count : Cond) ∈ wA := wA_s3 _ (List.mem_of_getElem? (i := 2) rfl)
theorem wi_123 : (.code yS_count prog_1_method_10_code 2 (some .int) : Cond) ∈ wA := wA_s3 _ (List.mem_of_getElem? (i := 3) rfl)
theorem wi_124 : (.methodLink "ShortenPrograms" 69 yP_length : Cond) ∈ wA := wA_s3 _ (List.mem_of_getElem? (i := 4) rfl)
theorem wi_125 : (.instanceMethod yP_length : Cond) ∈ wA := wA_s3 _ (List.mem_of_getElem? (i := 5) rfl)
theorem wi_126 : (.selects "ShortenPrograms$Program" yP_length yP_length : Cond) ∈ wA := wA_s3 _ (List.mem_of_getElem? (i := 6) rfl)
theorem wi_127 : (.code yP_length prog_4_method_2_code 1 (some .int) : Cond) ∈ wA := wA_s3 _ (List.mem_of_getElem? (i := 7) rfl)
theorem wi_128 : (.methodLink "ShortenPrograms" 153 yM_filled : Cond) ∈ wA := wA_s3 _ (List.mem_of_getElem? (i := 8) rfl)
theorem wi_129 : (.instanceMethod yM_filled : Cond) ∈ wA := wA_s3 _ (List.mem_of_getElem? (i := 9) rfl)
theorem wi_130 : (.selects "ShortenPrograms$Memory" yM_filled yM_filled : Cond) ∈ wA := wA_s3 _ (List.mem_of_getElem? (i := 10) rfl)
theorem wi_131 : (.code yM_filled prog_3_method_2_code 1 (some .int) : Cond) ∈ wA := wA_s3 _ (List.mem_of_getElem? (i := 11) rfl)
theorem wi_132 : (.methodLink "ShortenPrograms" 168 yW_timesLeaving : Cond) ∈ wA := wA_s3 _ (List.mem_of_getElem? (i := 12) rfl)
theorem wi_133 : (.instanceMethod yW_timesLeaving : Cond) ∈ wA := wA_s3 _ (List.mem_of_getElem? (i := 13) rfl)
theorem wi_134 : (.selects "ShortenPrograms$Walk" yW_timesLeaving yW_timesLeaving : Cond) ∈ wA := wA_s3 _ (List.mem_of_getElem? (i := 14) rfl)
theorem wi_135 : (.code yW_timesLeaving prog_5_method_2_code 1 (some .int) : Cond) ∈ wA := wA_s3 _ (List.mem_of_getElem? (i := 15) rfl)
theorem wi_136 : (.methodLink "ShortenProgramsLaw" 44 yL_cell : Cond) ∈ wA := wA_s3 _ (List.mem_of_getElem? (i := 16) rfl)
theorem wi_137 : (.static yL_cell : Cond) ∈ wA := wA_s3 _ (List.mem_of_getElem? (i := 17) rfl)
theorem wi_138 : (.code yL_cell method_2_code 2 (some .int) : Cond) ∈ wA := wA_s3 _ (List.mem_of_getElem? (i := 18) rfl)
theorem wi_139 : (.methodLink "ShortenProgramsLaw" 56 yL_feed : Cond) ∈ wA := wA_s3 _ (List.mem_of_getElem? (i := 19) rfl)
theorem wi_140 : (.static yL_feed : Cond) ∈ wA := wA_s3 _ (List.mem_of_getElem? (i := 20) rfl)
theorem wi_141 : (.codeWith yL_feed method_3_code 4 (some .int) [(0, 9, 12, 13)] : Cond) ∈ wA := wA_s3 _ (List.mem_of_getElem? (i := 21) rfl)
theorem wi_142 : (.classLink "ShortenProgramsLaw" 13 "java/lang/UnsupportedOperationException" : Cond) ∈ wA := wA_s3 _ (List.mem_of_getElem? (i := 22) rfl)
theorem wi_143 : (.methodLink "ShortenProgramsLaw" 7 yS_feed : Cond) ∈ wA := wA_s3 _ (List.mem_of_getElem? (i := 23) rfl)
theorem wi_144 : (.instanceMethod yS_feed : Cond) ∈ wA := wA_s3 _ (List.mem_of_getElem? (i := 24) rfl)
theorem wi_145 : (.selects "ShortenPrograms" yS_feed yS_feed : Cond) ∈ wA := wA_s3 _ (List.mem_of_getElem? (i := 25) rfl)
theorem wi_146 : (.code yS_feed prog_1_method_2_code 2 (some .int) : Cond) ∈ wA := wA_s3 _ (List.mem_of_getElem? (i := 26) rfl)
theorem wi_147 : (.methodLink "ShortenPrograms" 51 yS_startAfresh : Cond) ∈ wA := wA_s3 _ (List.mem_of_getElem? (i := 27) rfl)
theorem wi_148 : (.instanceMethod yS_startAfresh : Cond) ∈ wA := wA_s3 _ (List.mem_of_getElem? (i := 28) rfl)
theorem wi_149 : (.code yS_startAfresh prog_1_method_11_code 1 none : Cond) ∈ wA := wA_s3 _ (List.mem_of_getElem? (i := 29) rfl)
theorem wi_150 : (.methodLink "ShortenPrograms" 171 yP_clear : Cond) ∈ wA := wA_s3 _ (List.mem_of_getElem? (i := 30) rfl)
theorem wi_151 : (.instanceMethod yP_clear : Cond) ∈ wA := wA_s3 _ (List.mem_of_getElem? (i := 31) rfl)
theorem wi_152 : (.selects "ShortenPrograms$Program" yP_clear yP_clear : Cond) ∈ wA := wA_s3 _ (List.mem_of_getElem? (i := 32) rfl)
theorem wi_153 : (.code yP_clear prog_4_method_7_code 1 none : Cond) ∈ wA := wA_s3 _ (List.mem_of_getElem? (i := 33) rfl)
theorem wi_154 : (.methodLink "ShortenPrograms" 174 yM_clear : Cond) ∈ wA := wA_s3 _ (List.mem_of_getElem? (i := 34) rfl)
theorem wi_155 : (.instanceMethod yM_clear : Cond) ∈ wA := wA_s3 _ (List.mem_of_getElem? (i := 35) rfl)
theorem wi_156 : (.selects "ShortenPrograms$Memory" yM_clear yM_clear : Cond) ∈ wA := wA_s3 _ (List.mem_of_getElem? (i := 36) rfl)
theorem wi_157 : (.code yM_clear prog_3_method_3_code 1 none : Cond) ∈ wA := wA_s3 _ (List.mem_of_getElem? (i := 37) rfl)
theorem wi_158 : (.methodLink "ShortenPrograms" 175 yW_clear : Cond) ∈ wA := wA_s3 _ (List.mem_of_getElem? (i := 38) rfl)
theorem wi_159 : (.instanceMethod yW_clear : Cond) ∈ wA := wA_s3 _ (List.mem_of_getElem? (i := 39) rfl)
theorem wi_160 : (.selects "ShortenPrograms$Walk" yW_clear yW_clear : Cond) ∈ wA := wA_s4 _ (List.mem_of_getElem? (i := 0) rfl)
theorem wi_161 : (.code yW_clear prog_5_method_4_code 1 none : Cond) ∈ wA := wA_s4 _ (List.mem_of_getElem? (i := 1) rfl)
theorem wi_162 : (.methodLink "ShortenPrograms" 54 yP_isFull : Cond) ∈ wA := wA_s4 _ (List.mem_of_getElem? (i := 2) rfl)
theorem wi_163 : (.instanceMethod yP_isFull : Cond) ∈ wA := wA_s4 _ (List.mem_of_getElem? (i := 3) rfl)
theorem wi_164 : (.selects "ShortenPrograms$Program" yP_isFull yP_isFull : Cond) ∈ wA := wA_s4 _ (List.mem_of_getElem? (i := 4) rfl)
theorem wi_165 : (.code yP_isFull prog_4_method_3_code 1 (some .boolean) : Cond) ∈ wA := wA_s4 _ (List.mem_of_getElem? (i := 5) rfl)
theorem wi_166 : (.classLink "ShortenPrograms" 58 "java/lang/UnsupportedOperationException" : Cond) ∈ wA := wA_s4 _ (List.mem_of_getElem? (i := 6) rfl)
theorem wi_167 : (.instantiable "java/lang/UnsupportedOperationException" 6 : Cond) ∈ wA := wA_s4 _ (List.mem_of_getElem? (i := 7) rfl)
theorem wi_168 : (.selects "java/lang/UnsupportedOperationException" ⟨"java/lang/Throwable", "fillInStackTrace", "(I)Ljava/lang/Throwable;"⟩ ⟨"java/lang/Throwable", "fillInStackTrace", "(I)Ljava/lang/Throwable;"⟩ : Cond) ∈ wA := wA_s4 _ (List.mem_of_getElem? (i := 8) rfl)
theorem wi_169 : (.selects "java/lang/UnsupportedOperationException" ⟨"java/lang/Throwable", "fillInStackTrace", "()Ljava/lang/Throwable;"⟩ ⟨"java/lang/Throwable", "fillInStackTrace", "()Ljava/lang/Throwable;"⟩ : Cond) ∈ wA := wA_s4 _ (List.mem_of_getElem? (i := 9) rfl)
theorem wi_170 : (.lays "java/lang/UnsupportedOperationException" "java/lang/Throwable" "cause" "Ljava/lang/Throwable;" : Cond) ∈ wA := wA_s4 _ (List.mem_of_getElem? (i := 10) rfl)
theorem wi_171 : (.lays "java/lang/Throwable" "java/lang/Throwable" "cause" "Ljava/lang/Throwable;" : Cond) ∈ wA := wA_s4 _ (List.mem_of_getElem? (i := 11) rfl)
theorem wi_172 : (.lays "java/lang/UnsupportedOperationException" "java/lang/Throwable" "stackTrace" "[Ljava/lang/StackTraceElement;" : Cond) ∈ wA := wA_s4 _ (List.mem_of_getElem? (i := 12) rfl)
theorem wi_173 : (.lays "java/lang/Throwable" "java/lang/Throwable" "stackTrace" "[Ljava/lang/StackTraceElement;" : Cond) ∈ wA := wA_s4 _ (List.mem_of_getElem? (i := 13) rfl)
theorem wi_174 : (.lays "java/lang/UnsupportedOperationException" "java/lang/Throwable" "suppressedExceptions" "Ljava/util/List;" : Cond) ∈ wA := wA_s4 _ (List.mem_of_getElem? (i := 14) rfl)
theorem wi_175 : (.lays "java/lang/Throwable" "java/lang/Throwable" "suppressedExceptions" "Ljava/util/List;" : Cond) ∈ wA := wA_s4 _ (List.mem_of_getElem? (i := 15) rfl)
theorem wi_176 : (.lays "java/lang/UnsupportedOperationException" "java/lang/Throwable" "detailMessage" "Ljava/lang/String;" : Cond) ∈ wA := wA_s4 _ (List.mem_of_getElem? (i := 16) rfl)
theorem wi_177 : (.lays "java/lang/Throwable" "java/lang/Throwable" "detailMessage" "Ljava/lang/String;" : Cond) ∈ wA := wA_s4 _ (List.mem_of_getElem? (i := 17) rfl)
theorem wi_178 : (.lays "java/lang/UnsupportedOperationException" "java/lang/Throwable" "backtrace" "Ljava/lang/Object;" : Cond) ∈ wA := wA_s4 _ (List.mem_of_getElem? (i := 18) rfl)
theorem wi_179 : (.lays "java/lang/Throwable" "java/lang/Throwable" "backtrace" "Ljava/lang/Object;" : Cond) ∈ wA := wA_s4 _ (List.mem_of_getElem? (i := 19) rfl)
theorem wi_180 : (.fieldLink "java/lang/Throwable" 198 "java/lang/Throwable" "backtrace" "Ljava/lang/Object;" : Cond) ∈ wA := wA_s4 _ (List.mem_of_getElem? (i := 20) rfl)
theorem wi_181 : (.superclass "java/lang/Throwable" "java/lang/Object" : Cond) ∈ wA := wA_s4 _ (List.mem_of_getElem? (i := 21) rfl)
theorem wi_182 : (.instanceMethod ⟨"java/lang/Throwable", "<init>", "()V"⟩ : Cond) ∈ wA := wA_s4 _ (List.mem_of_getElem? (i := 22) rfl)
theorem wi_183 : (.code ⟨"java/lang/Throwable", "<init>", "()V"⟩ prog_15_method_1_code 1 none : Cond) ∈ wA := wA_s4 _ (List.mem_of_getElem? (i := 23) rfl)
theorem wi_184 : (.methodLink "java/lang/Throwable" 1 ⟨"java/lang/Object", "<init>", "()V"⟩ : Cond) ∈ wA := wA_s4 _ (List.mem_of_getElem? (i := 24) rfl)
theorem wi_185 : (.fieldLink "java/lang/Throwable" 13 "java/lang/Throwable" "UNASSIGNED_STACK" "[Ljava/lang/StackTraceElement;" : Cond) ∈ wA := wA_s4 _ (List.mem_of_getElem? (i := 25) rfl)
theorem wi_186 : (.fieldLink "java/lang/Throwable" 20 "java/lang/Throwable" "SUPPRESSED_SENTINEL" "Ljava/util/List;" : Cond) ∈ wA := wA_s4 _ (List.mem_of_getElem? (i := 26) rfl)
theorem wi_187 : (.methodLink "java/lang/Throwable" 27 ⟨"java/lang/Throwable", "fillInStackTrace", "()Ljava/lang/Throwable;"⟩ : Cond) ∈ wA := wA_s4 _ (List.mem_of_getElem? (i := 27) rfl)
theorem wi_188 : (.instanceMethod ⟨"java/lang/Throwable", "fillInStackTrace", "()Ljava/lang/Throwable;"⟩ : Cond) ∈ wA := wA_s4 _ (List.mem_of_getElem? (i := 28) rfl)
theorem wi_189 : (.sameMethod "java/lang/Throwable" "java/lang/Throwable" "fillInStackTrace" "()Ljava/lang/Throwable;" : Cond) ∈ wA := wA_s4 _ (List.mem_of_getElem? (i := 29) rfl)
theorem wi_190 : (.selects "java/lang/IllegalArgumentException" ⟨"java/lang/Throwable", "fillInStackTrace", "()Ljava/lang/Throwable;"⟩ ⟨"java/lang/Throwable", "fillInStackTrace", "()Ljava/lang/Throwable;"⟩ : Cond) ∈ wA := wA_s4 _ (List.mem_of_getElem? (i := 30) rfl)
theorem wi_191 : (.selects "java/lang/IllegalStateException" ⟨"java/lang/Throwable", "fillInStackTrace", "()Ljava/lang/Throwable;"⟩ ⟨"java/lang/Throwable", "fillInStackTrace", "()Ljava/lang/Throwable;"⟩ : Cond) ∈ wA := wA_s4 _ (List.mem_of_getElem? (i := 31) rfl)
theorem wi_192 : (.selects "java/lang/IndexOutOfBoundsException" ⟨"java/lang/Throwable", "fillInStackTrace", "()Ljava/lang/Throwable;"⟩ ⟨"java/lang/Throwable", "fillInStackTrace", "()Ljava/lang/Throwable;"⟩ : Cond) ∈ wA := wA_s4 _ (List.mem_of_getElem? (i := 32) rfl)
theorem wi_193 : (.codeSync ⟨"java/lang/Throwable", "fillInStackTrace", "()Ljava/lang/Throwable;"⟩ prog_15_method_18_code 1 (some (.object "java/lang/Throwable")) : Cond) ∈ wA := wA_s4 _ (List.mem_of_getElem? (i := 33) rfl)
theorem wi_194 : (.methodLink "java/lang/Throwable" 202 ⟨"java/lang/Throwable", "fillInStackTrace", "(I)Ljava/lang/Throwable;"⟩ : Cond) ∈ wA := wA_s4 _ (List.mem_of_getElem? (i := 34) rfl)
theorem wi_195 : (.instanceMethod ⟨"java/lang/Throwable", "fillInStackTrace", "(I)Ljava/lang/Throwable;"⟩ : Cond) ∈ wA := wA_s4 _ (List.mem_of_getElem? (i := 35) rfl)
theorem wi_196 : (.instantiable "java/lang/Throwable" 6 : Cond) ∈ wA := wA_s4 _ (List.mem_of_getElem? (i := 36) rfl)
theorem wi_197 : (.native ⟨"java/lang/Throwable", "fillInStackTrace", "(I)Ljava/lang/Throwable;"⟩ : Cond) ∈ wA := wA_s4 _ (List.mem_of_getElem? (i := 37) rfl)
theorem wi_198 : (.methodLink "ShortenPrograms" 62 ⟨"java/lang/UnsupportedOperationException", "<init>", "(Ljava/lang/String;)V"⟩ : Cond) ∈ wA := wA_s4 _ (List.mem_of_getElem? (i := 38) rfl)
theorem wi_199 : (.instanceMethod ⟨"java/lang/UnsupportedOperationException", "<init>", "(Ljava/lang/String;)V"⟩ : Cond) ∈ wA := wA_s4 _ (List.mem_of_getElem? (i := 39) rfl)
theorem wi_200 : (.code ⟨"java/lang/UnsupportedOperationException", "<init>", "(Ljava/lang/String;)V"⟩ prog_16_method_2_code 2 none : Cond) ∈ wA := wA_s5 _ (List.mem_of_getElem? (i := 0) rfl)
theorem wi_201 : (.methodLink "java/lang/UnsupportedOperationException" 7 ⟨"java/lang/RuntimeException", "<init>", "(Ljava/lang/String;)V"⟩ : Cond) ∈ wA := wA_s5 _ (List.mem_of_getElem? (i := 1) rfl)
theorem wi_202 : (.instanceMethod ⟨"java/lang/RuntimeException", "<init>", "(Ljava/lang/String;)V"⟩ : Cond) ∈ wA := wA_s5 _ (List.mem_of_getElem? (i := 2) rfl)
theorem wi_203 : (.code ⟨"java/lang/RuntimeException", "<init>", "(Ljava/lang/String;)V"⟩ prog_13_method_2_code 2 none : Cond) ∈ wA := wA_s5 _ (List.mem_of_getElem? (i := 3) rfl)
theorem wi_204 : (.methodLink "java/lang/RuntimeException" 7 ⟨"java/lang/Exception", "<init>", "(Ljava/lang/String;)V"⟩ : Cond) ∈ wA := wA_s5 _ (List.mem_of_getElem? (i := 4) rfl)
theorem wi_205 : (.instanceMethod ⟨"java/lang/Exception", "<init>", "(Ljava/lang/String;)V"⟩ : Cond) ∈ wA := wA_s5 _ (List.mem_of_getElem? (i := 5) rfl)
theorem wi_206 : (.code ⟨"java/lang/Exception", "<init>", "(Ljava/lang/String;)V"⟩ prog_8_method_2_code 2 none : Cond) ∈ wA := wA_s5 _ (List.mem_of_getElem? (i := 6) rfl)
theorem wi_207 : (.methodLink "java/lang/Exception" 7 ⟨"java/lang/Throwable", "<init>", "(Ljava/lang/String;)V"⟩ : Cond) ∈ wA := wA_s5 _ (List.mem_of_getElem? (i := 7) rfl)
theorem wi_208 : (.instanceMethod ⟨"java/lang/Throwable", "<init>", "(Ljava/lang/String;)V"⟩ : Cond) ∈ wA := wA_s5 _ (List.mem_of_getElem? (i := 8) rfl)
theorem wi_209 : (.code ⟨"java/lang/Throwable", "<init>", "(Ljava/lang/String;)V"⟩ prog_15_method_2_code 2 none : Cond) ∈ wA := wA_s5 _ (List.mem_of_getElem? (i := 9) rfl)
theorem wi_210 : (.fieldLink "java/lang/Throwable" 198 "java/lang/Throwable" "backtrace" "Ljava/lang/Object;" : Cond) ∈ wA := wA_s5 _ (List.mem_of_getElem? (i := 10) rfl)
theorem wi_211 : (.fieldLink "java/lang/Throwable" 31 "java/lang/Throwable" "detailMessage" "Ljava/lang/String;" : Cond) ∈ wA := wA_s5 _ (List.mem_of_getElem? (i := 11) rfl)
theorem wi_212 : (.fieldLink "java/lang/Throwable" 7 "java/lang/Throwable" "cause" "Ljava/lang/Throwable;" : Cond) ∈ wA := wA_s5 _ (List.mem_of_getElem? (i := 12) rfl)
theorem wi_213 : (.fieldLink "java/lang/Throwable" 17 "java/lang/Throwable" "stackTrace" "[Ljava/lang/StackTraceElement;" : Cond) ∈ wA := wA_s5 _ (List.mem_of_getElem? (i := 13) rfl)
theorem wi_214 : (.fieldLink "java/lang/Throwable" 24 "java/lang/Throwable" "suppressedExceptions" "Ljava/util/List;" : Cond) ∈ wA := wA_s5 _ (List.mem_of_getElem? (i := 14) rfl)
theorem wi_215 : (.soleField "java/lang/Throwable" "backtrace" : Cond) ∈ wA := wA_s5 _ (List.mem_of_getElem? (i := 15) rfl)
theorem wi_216 : (.soleField "java/lang/Throwable" "detailMessage" : Cond) ∈ wA := wA_s5 _ (List.mem_of_getElem? (i := 16) rfl)
theorem wi_217 : (.soleField "java/lang/Throwable" "cause" : Cond) ∈ wA := wA_s5 _ (List.mem_of_getElem? (i := 17) rfl)
theorem wi_218 : (.soleField "java/lang/Throwable" "stackTrace" : Cond) ∈ wA := wA_s5 _ (List.mem_of_getElem? (i := 18) rfl)
theorem wi_219 : (.lays "java/lang/UnsupportedOperationException" "java/lang/Throwable" "depth" "I" : Cond) ∈ wA := wA_s5 _ (List.mem_of_getElem? (i := 19) rfl)
theorem wi_220 : (.soleField "java/lang/Throwable" "depth" : Cond) ∈ wA := wA_s5 _ (List.mem_of_getElem? (i := 20) rfl)
theorem wi_221 : (.soleField "java/lang/Throwable" "suppressedExceptions" : Cond) ∈ wA := wA_s5 _ (List.mem_of_getElem? (i := 21) rfl)
theorem wi_222 : (.superclass "java/lang/UnsupportedOperationException" "java/lang/RuntimeException" : Cond) ∈ wA := wA_s5 _ (List.mem_of_getElem? (i := 22) rfl)
theorem wi_223 : (.arrayClass .byte : Cond) ∈ wA := wA_s5 _ (List.mem_of_getElem? (i := 23) rfl)
theorem wi_224 : (.methodLink "ShortenPrograms" 65 yP_append : Cond) ∈ wA := wA_s5 _ (List.mem_of_getElem? (i := 24) rfl)
theorem wi_225 : (.instanceMethod yP_append : Cond) ∈ wA := wA_s5 _ (List.mem_of_getElem? (i := 25) rfl)
theorem wi_226 : (.selects "ShortenPrograms$Program" yP_append yP_append : Cond) ∈ wA := wA_s5 _ (List.mem_of_getElem? (i := 26) rfl)
theorem wi_227 : (.code yP_append prog_4_method_8_code 2 none : Cond) ∈ wA := wA_s5 _ (List.mem_of_getElem? (i := 27) rfl)
theorem wi_228 : (.methodLink "ShortenProgramsLaw" 63 yL_begin : Cond) ∈ wA := wA_s5 _ (List.mem_of_getElem? (i := 28) rfl)
theorem wi_229 : (.static yL_begin : Cond) ∈ wA := wA_s5 _ (List.mem_of_getElem? (i := 29) rfl)
theorem wi_230 : (.codeWith yL_begin method_4_code 2 (some .int) [(0, 4, 7, 18)] : Cond) ∈ wA := wA_s5 _ (List.mem_of_getElem? (i := 30) rfl)
theorem wi_231 : (.classLink "ShortenProgramsLaw" 18 "java/lang/IllegalStateException" : Cond) ∈ wA := wA_s5 _ (List.mem_of_getElem? (i := 31) rfl)
theorem wi_232 : (.methodLink "ShortenProgramsLaw" 15 yS_begin : Cond) ∈ wA := wA_s5 _ (List.mem_of_getElem? (i := 32) rfl)
theorem wi_233 : (.instanceMethod yS_begin : Cond) ∈ wA := wA_s5 _ (List.mem_of_getElem? (i := 33) rfl)
theorem wi_234 : (.selects "ShortenPrograms" yS_begin yS_begin : Cond) ∈ wA := wA_s5 _ (List.mem_of_getElem? (i := 34) rfl)
theorem wi_235 : (.code yS_begin prog_1_method_3_code 1 none : Cond) ∈ wA := wA_s5 _ (List.mem_of_getElem? (i := 35) rfl)
theorem wi_236 : (.classLink "ShortenPrograms" 73 "java/lang/IllegalStateException" : Cond) ∈ wA := wA_s5 _ (List.mem_of_getElem? (i := 36) rfl)
theorem wi_237 : (.instantiable "java/lang/IllegalStateException" 6 : Cond) ∈ wA := wA_s5 _ (List.mem_of_getElem? (i := 37) rfl)
theorem wi_238 : (.selects "java/lang/IllegalStateException" ⟨"java/lang/Throwable", "fillInStackTrace", "(I)Ljava/lang/Throwable;"⟩ ⟨"java/lang/Throwable", "fillInStackTrace", "(I)Ljava/lang/Throwable;"⟩ : Cond) ∈ wA := wA_s5 _ (List.mem_of_getElem? (i := 38) rfl)
theorem wi_239 : (.lays "java/lang/IllegalStateException" "java/lang/Throwable" "cause" "Ljava/lang/Throwable;" : Cond) ∈ wA := wA_s5 _ (List.mem_of_getElem? (i := 39) rfl)
theorem wi_240 : (.lays "java/lang/IllegalStateException" "java/lang/Throwable" "stackTrace" "[Ljava/lang/StackTraceElement;" : Cond) ∈ wA := wA_s6 _ (List.mem_of_getElem? (i := 0) rfl)
theorem wi_241 : (.lays "java/lang/IllegalStateException" "java/lang/Throwable" "suppressedExceptions" "Ljava/util/List;" : Cond) ∈ wA := wA_s6 _ (List.mem_of_getElem? (i := 1) rfl)
theorem wi_242 : (.lays "java/lang/IllegalStateException" "java/lang/Throwable" "detailMessage" "Ljava/lang/String;" : Cond) ∈ wA := wA_s6 _ (List.mem_of_getElem? (i := 2) rfl)
theorem wi_243 : (.lays "java/lang/IllegalStateException" "java/lang/Throwable" "backtrace" "Ljava/lang/Object;" : Cond) ∈ wA := wA_s6 _ (List.mem_of_getElem? (i := 3) rfl)
theorem wi_244 : (.methodLink "ShortenPrograms" 77 ⟨"java/lang/IllegalStateException", "<init>", "(Ljava/lang/String;)V"⟩ : Cond) ∈ wA := wA_s6 _ (List.mem_of_getElem? (i := 4) rfl)
theorem wi_245 : (.instanceMethod ⟨"java/lang/IllegalStateException", "<init>", "(Ljava/lang/String;)V"⟩ : Cond) ∈ wA := wA_s6 _ (List.mem_of_getElem? (i := 5) rfl)
theorem wi_246 : (.code ⟨"java/lang/IllegalStateException", "<init>", "(Ljava/lang/String;)V"⟩ prog_10_method_2_code 2 none : Cond) ∈ wA := wA_s6 _ (List.mem_of_getElem? (i := 6) rfl)
theorem wi_247 : (.methodLink "java/lang/IllegalStateException" 7 ⟨"java/lang/RuntimeException", "<init>", "(Ljava/lang/String;)V"⟩ : Cond) ∈ wA := wA_s6 _ (List.mem_of_getElem? (i := 7) rfl)
theorem wi_248 : (.lays "java/lang/IllegalStateException" "java/lang/Throwable" "depth" "I" : Cond) ∈ wA := wA_s6 _ (List.mem_of_getElem? (i := 8) rfl)
theorem wi_249 : (.superclass "java/lang/IllegalStateException" "java/lang/RuntimeException" : Cond) ∈ wA := wA_s6 _ (List.mem_of_getElem? (i := 9) rfl)
theorem wi_250 : (.methodLink "ShortenPrograms" 78 yM_keep : Cond) ∈ wA := wA_s6 _ (List.mem_of_getElem? (i := 10) rfl)
theorem wi_251 : (.instanceMethod yM_keep : Cond) ∈ wA := wA_s6 _ (List.mem_of_getElem? (i := 11) rfl)
theorem wi_252 : (.selects "ShortenPrograms$Memory" yM_keep yM_keep : Cond) ∈ wA := wA_s6 _ (List.mem_of_getElem? (i := 12) rfl)
theorem wi_253 : (.code yM_keep prog_3_method_4_code 3 none : Cond) ∈ wA := wA_s6 _ (List.mem_of_getElem? (i := 13) rfl)
theorem wi_254 : (.instantiable "ShortenPrograms$Ask" 3 : Cond) ∈ wA := wA_s6 _ (List.mem_of_getElem? (i := 14) rfl)
theorem wi_255 : (.instanceMethod yA_init : Cond) ∈ wA := wA_s6 _ (List.mem_of_getElem? (i := 15) rfl)
theorem wi_256 : (.code yA_init prog_2_method_1_code 1 none : Cond) ∈ wA := wA_s6 _ (List.mem_of_getElem? (i := 16) rfl)
theorem wi_257 : (.methodLink "ShortenPrograms$Ask" 3 ⟨"java/lang/Object", "<init>", "()V"⟩ : Cond) ∈ wA := wA_s6 _ (List.mem_of_getElem? (i := 17) rfl)
theorem wi_258 : (.classLink "ShortenPrograms$Ask" 9 "ShortenPrograms$Program" : Cond) ∈ wA := wA_s6 _ (List.mem_of_getElem? (i := 18) rfl)
theorem wi_259 : (.fieldLink "ShortenPrograms$Ask" 12 "ShortenPrograms$Ask" "program" "LShortenPrograms$Program;" : Cond) ∈ wA := wA_s6 _ (List.mem_of_getElem? (i := 19) rfl)
theorem wi_260 : (.fieldLink "ShortenPrograms$Ask" 30 "ShortenPrograms$Ask" "mark" "I" : Cond) ∈ wA := wA_s6 _ (List.mem_of_getElem? (i := 20) rfl)
theorem wi_261 : (.fieldLink "ShortenPrograms$Ask" 18 "ShortenPrograms$Ask" "answer" "I" : Cond) ∈ wA := wA_s6 _ (List.mem_of_getElem? (i := 21) rfl)
theorem wi_262 : (.laysFinal "ShortenPrograms$Ask" "ShortenPrograms$Ask" "program" "LShortenPrograms$Program;" : Cond) ∈ wA := wA_s6 _ (List.mem_of_getElem? (i := 22) rfl)
theorem wi_263 : (.soleField "ShortenPrograms$Ask" "program" : Cond) ∈ wA := wA_s6 _ (List.mem_of_getElem? (i := 23) rfl)
theorem wi_264 : (.lays "ShortenPrograms$Ask" "ShortenPrograms$Ask" "mark" "I" : Cond) ∈ wA := wA_s6 _ (List.mem_of_getElem? (i := 24) rfl)
theorem wi_265 : (.soleField "ShortenPrograms$Ask" "mark" : Cond) ∈ wA := wA_s6 _ (List.mem_of_getElem? (i := 25) rfl)
theorem wi_266 : (.lays "ShortenPrograms$Ask" "ShortenPrograms$Ask" "answer" "I" : Cond) ∈ wA := wA_s6 _ (List.mem_of_getElem? (i := 26) rfl)
theorem wi_267 : (.soleField "ShortenPrograms$Ask" "answer" : Cond) ∈ wA := wA_s6 _ (List.mem_of_getElem? (i := 27) rfl)
theorem wi_268 : (.superclass "ShortenPrograms$Ask" "java/lang/Object" : Cond) ∈ wA := wA_s6 _ (List.mem_of_getElem? (i := 28) rfl)
theorem wi_269 : (.methodLink "ShortenPrograms$Memory" 22 yA_open : Cond) ∈ wA := wA_s6 _ (List.mem_of_getElem? (i := 29) rfl)
theorem wi_270 : (.instanceMethod yA_open : Cond) ∈ wA := wA_s6 _ (List.mem_of_getElem? (i := 30) rfl)
theorem wi_271 : (.selects "ShortenPrograms$Ask" yA_open yA_open : Cond) ∈ wA := wA_s6 _ (List.mem_of_getElem? (i := 31) rfl)
theorem wi_272 : (.code yA_open prog_2_method_5_code 2 none : Cond) ∈ wA := wA_s6 _ (List.mem_of_getElem? (i := 32) rfl)
theorem wi_273 : (.methodLink "ShortenPrograms$Ask" 22 yP_copy : Cond) ∈ wA := wA_s6 _ (List.mem_of_getElem? (i := 33) rfl)
theorem wi_274 : (.instanceMethod yP_copy : Cond) ∈ wA := wA_s6 _ (List.mem_of_getElem? (i := 34) rfl)
theorem wi_275 : (.selects "ShortenPrograms$Program" yP_copy yP_copy : Cond) ∈ wA := wA_s6 _ (List.mem_of_getElem? (i := 35) rfl)
theorem wi_276 : (.code yP_copy prog_4_method_9_code 4 none : Cond) ∈ wA := wA_s6 _ (List.mem_of_getElem? (i := 36) rfl)
theorem wi_277 : (.methodLink "ShortenPrograms$Program" 26 ⟨"java/lang/Math", "min", "(II)I"⟩ : Cond) ∈ wA := wA_s6 _ (List.mem_of_getElem? (i := 37) rfl)
theorem wi_278 : (.static ⟨"java/lang/Math", "min", "(II)I"⟩ : Cond) ∈ wA := wA_s6 _ (List.mem_of_getElem? (i := 38) rfl)
theorem wi_279 : (.code ⟨"java/lang/Math", "min", "(II)I"⟩ prog_12_method_69_code 2 (some .int) : Cond) ∈ wA := wA_s6 _ (List.mem_of_getElem? (i := 39) rfl)
theorem wi_280 : (.methodLink "ShortenPrograms$Ask" 26 yP_mark : Cond) ∈ wA := wA_s7 _ (List.mem_of_getElem? (i := 0) rfl)
theorem wi_281 : (.instanceMethod yP_mark : Cond) ∈ wA := wA_s7 _ (List.mem_of_getElem? (i := 1) rfl)
theorem wi_282 : (.selects "ShortenPrograms$Program" yP_mark yP_mark : Cond) ∈ wA := wA_s7 _ (List.mem_of_getElem? (i := 2) rfl)
theorem wi_283 : (.code yP_mark prog_4_method_15_code 3 (some .int) : Cond) ∈ wA := wA_s7 _ (List.mem_of_getElem? (i := 3) rfl)
theorem wi_284 : (.methodLink "ShortenProgramsLaw" 67 yL_asked : Cond) ∈ wA := wA_s7 _ (List.mem_of_getElem? (i := 4) rfl)
theorem wi_285 : (.static yL_asked : Cond) ∈ wA := wA_s7 _ (List.mem_of_getElem? (i := 5) rfl)
theorem wi_286 : (.codeWith yL_asked method_5_code 4 (some .int) [(0, 9, 12, 18), (0, 9, 15, 23)] : Cond) ∈ wA := wA_s7 _ (List.mem_of_getElem? (i := 6) rfl)
theorem wi_287 : (.classLink "ShortenProgramsLaw" 23 "java/lang/IndexOutOfBoundsException" : Cond) ∈ wA := wA_s7 _ (List.mem_of_getElem? (i := 7) rfl)
theorem wi_288 : (.methodLink "ShortenProgramsLaw" 20 yS_asked : Cond) ∈ wA := wA_s7 _ (List.mem_of_getElem? (i := 8) rfl)
theorem wi_289 : (.instanceMethod yS_asked : Cond) ∈ wA := wA_s7 _ (List.mem_of_getElem? (i := 9) rfl)
theorem wi_290 : (.selects "ShortenPrograms" yS_asked yS_asked : Cond) ∈ wA := wA_s7 _ (List.mem_of_getElem? (i := 10) rfl)
theorem wi_291 : (.code yS_asked prog_1_method_4_code 3 (some .int) : Cond) ∈ wA := wA_s7 _ (List.mem_of_getElem? (i := 11) rfl)
theorem wi_292 : (.methodLink "ShortenPrograms" 82 yS_openAsk : Cond) ∈ wA := wA_s7 _ (List.mem_of_getElem? (i := 12) rfl)
theorem wi_293 : (.instanceMethod yS_openAsk : Cond) ∈ wA := wA_s7 _ (List.mem_of_getElem? (i := 13) rfl)
theorem wi_294 : (.code yS_openAsk prog_1_method_12_code 1 (some (.object "ShortenPrograms$Ask")) : Cond) ∈ wA := wA_s7 _ (List.mem_of_getElem? (i := 14) rfl)
theorem wi_295 : (.methodLink "ShortenPrograms" 176 yM_last : Cond) ∈ wA := wA_s7 _ (List.mem_of_getElem? (i := 15) rfl)
theorem wi_296 : (.instanceMethod yM_last : Cond) ∈ wA := wA_s7 _ (List.mem_of_getElem? (i := 16) rfl)
theorem wi_297 : (.selects "ShortenPrograms$Memory" yM_last yM_last : Cond) ∈ wA := wA_s7 _ (List.mem_of_getElem? (i := 17) rfl)
theorem wi_298 : (.code yM_last prog_3_method_5_code 1 (some (.object "ShortenPrograms$Ask")) : Cond) ∈ wA := wA_s7 _ (List.mem_of_getElem? (i := 18) rfl)
theorem wi_299 : (.methodLink "ShortenPrograms" 88 yA_program : Cond) ∈ wA := wA_s7 _ (List.mem_of_getElem? (i := 19) rfl)
theorem wi_300 : (.instanceMethod yA_program : Cond) ∈ wA := wA_s7 _ (List.mem_of_getElem? (i := 20) rfl)
theorem wi_301 : (.selects "ShortenPrograms$Ask" yA_program yA_program : Cond) ∈ wA := wA_s7 _ (List.mem_of_getElem? (i := 21) rfl)
theorem wi_302 : (.code yA_program prog_2_method_2_code 1 (some (.object "ShortenPrograms$Program")) : Cond) ∈ wA := wA_s7 _ (List.mem_of_getElem? (i := 22) rfl)
theorem wi_303 : (.methodLink "ShortenPrograms" 94 yP_has : Cond) ∈ wA := wA_s7 _ (List.mem_of_getElem? (i := 23) rfl)
theorem wi_304 : (.instanceMethod yP_has : Cond) ∈ wA := wA_s7 _ (List.mem_of_getElem? (i := 24) rfl)
theorem wi_305 : (.selects "ShortenPrograms$Program" yP_has yP_has : Cond) ∈ wA := wA_s7 _ (List.mem_of_getElem? (i := 25) rfl)
theorem wi_306 : (.code yP_has prog_4_method_4_code 2 (some .boolean) : Cond) ∈ wA := wA_s7 _ (List.mem_of_getElem? (i := 26) rfl)
theorem wi_307 : (.classLink "ShortenPrograms" 98 "java/lang/IndexOutOfBoundsException" : Cond) ∈ wA := wA_s7 _ (List.mem_of_getElem? (i := 27) rfl)
theorem wi_308 : (.instantiable "java/lang/IndexOutOfBoundsException" 6 : Cond) ∈ wA := wA_s7 _ (List.mem_of_getElem? (i := 28) rfl)
theorem wi_309 : (.selects "java/lang/IndexOutOfBoundsException" ⟨"java/lang/Throwable", "fillInStackTrace", "(I)Ljava/lang/Throwable;"⟩ ⟨"java/lang/Throwable", "fillInStackTrace", "(I)Ljava/lang/Throwable;"⟩ : Cond) ∈ wA := wA_s7 _ (List.mem_of_getElem? (i := 29) rfl)
theorem wi_310 : (.lays "java/lang/IndexOutOfBoundsException" "java/lang/Throwable" "cause" "Ljava/lang/Throwable;" : Cond) ∈ wA := wA_s7 _ (List.mem_of_getElem? (i := 30) rfl)
theorem wi_311 : (.lays "java/lang/IndexOutOfBoundsException" "java/lang/Throwable" "stackTrace" "[Ljava/lang/StackTraceElement;" : Cond) ∈ wA := wA_s7 _ (List.mem_of_getElem? (i := 31) rfl)
theorem wi_312 : (.lays "java/lang/IndexOutOfBoundsException" "java/lang/Throwable" "suppressedExceptions" "Ljava/util/List;" : Cond) ∈ wA := wA_s7 _ (List.mem_of_getElem? (i := 32) rfl)
theorem wi_313 : (.lays "java/lang/IndexOutOfBoundsException" "java/lang/Throwable" "detailMessage" "Ljava/lang/String;" : Cond) ∈ wA := wA_s7 _ (List.mem_of_getElem? (i := 33) rfl)
theorem wi_314 : (.lays "java/lang/IndexOutOfBoundsException" "java/lang/Throwable" "backtrace" "Ljava/lang/Object;" : Cond) ∈ wA := wA_s7 _ (List.mem_of_getElem? (i := 34) rfl)
theorem wi_315 : (.methodLink "ShortenPrograms" 102 ⟨"java/lang/IndexOutOfBoundsException", "<init>", "(Ljava/lang/String;)V"⟩ : Cond) ∈ wA := wA_s7 _ (List.mem_of_getElem? (i := 35) rfl)
theorem wi_316 : (.instanceMethod ⟨"java/lang/IndexOutOfBoundsException", "<init>", "(Ljava/lang/String;)V"⟩ : Cond) ∈ wA := wA_s7 _ (List.mem_of_getElem? (i := 36) rfl)
theorem wi_317 : (.code ⟨"java/lang/IndexOutOfBoundsException", "<init>", "(Ljava/lang/String;)V"⟩ prog_11_method_2_code 2 none : Cond) ∈ wA := wA_s7 _ (List.mem_of_getElem? (i := 37) rfl)
theorem wi_318 : (.methodLink "java/lang/IndexOutOfBoundsException" 7 ⟨"java/lang/RuntimeException", "<init>", "(Ljava/lang/String;)V"⟩ : Cond) ∈ wA := wA_s7 _ (List.mem_of_getElem? (i := 38) rfl)
theorem wi_319 : (.lays "java/lang/IndexOutOfBoundsException" "java/lang/Throwable" "depth" "I" : Cond) ∈ wA := wA_s7 _ (List.mem_of_getElem? (i := 39) rfl)
theorem wi_320 : (.superclass "java/lang/IndexOutOfBoundsException" "java/lang/RuntimeException" : Cond) ∈ wA := wA_s8 _ (List.mem_of_getElem? (i := 0) rfl)
theorem wi_321 : (.methodLink "ShortenPrograms" 103 yP_word : Cond) ∈ wA := wA_s8 _ (List.mem_of_getElem? (i := 1) rfl)
theorem wi_322 : (.instanceMethod yP_word : Cond) ∈ wA := wA_s8 _ (List.mem_of_getElem? (i := 2) rfl)
theorem wi_323 : (.selects "ShortenPrograms$Program" yP_word yP_word : Cond) ∈ wA := wA_s8 _ (List.mem_of_getElem? (i := 3) rfl)
theorem wi_324 : (.code yP_word prog_4_method_5_code 2 (some .int) : Cond) ∈ wA := wA_s8 _ (List.mem_of_getElem? (i := 4) rfl)
theorem wi_325 : (.methodLink "ShortenPrograms$Program" 22 yP_has : Cond) ∈ wA := wA_s8 _ (List.mem_of_getElem? (i := 5) rfl)
theorem wi_326 : (.methodLink "ShortenProgramsLaw" 70 yL_size : Cond) ∈ wA := wA_s8 _ (List.mem_of_getElem? (i := 6) rfl)
theorem wi_327 : (.static yL_size : Cond) ∈ wA := wA_s8 _ (List.mem_of_getElem? (i := 7) rfl)
theorem wi_328 : (.codeWith yL_size method_6_code 3 (some .int) [(0, 8, 11, 18)] : Cond) ∈ wA := wA_s8 _ (List.mem_of_getElem? (i := 8) rfl)
theorem wi_329 : (.methodLink "ShortenProgramsLaw" 25 yS_size : Cond) ∈ wA := wA_s8 _ (List.mem_of_getElem? (i := 9) rfl)
theorem wi_330 : (.instanceMethod yS_size : Cond) ∈ wA := wA_s8 _ (List.mem_of_getElem? (i := 10) rfl)
theorem wi_331 : (.selects "ShortenPrograms" yS_size yS_size : Cond) ∈ wA := wA_s8 _ (List.mem_of_getElem? (i := 11) rfl)
theorem wi_332 : (.code yS_size prog_1_method_5_code 2 (some .int) : Cond) ∈ wA := wA_s8 _ (List.mem_of_getElem? (i := 12) rfl)
theorem wi_333 : (.methodLink "ShortenProgramsLaw" 74 yL_judge : Cond) ∈ wA := wA_s8 _ (List.mem_of_getElem? (i := 13) rfl)
theorem wi_334 : (.static yL_judge : Cond) ∈ wA := wA_s8 _ (List.mem_of_getElem? (i := 14) rfl)
theorem wi_335 : (.codeWith yL_judge method_7_code 4 (some .int) [(0, 9, 12, 18), (0, 9, 15, 32)] : Cond) ∈ wA := wA_s8 _ (List.mem_of_getElem? (i := 15) rfl)
theorem wi_336 : (.classLink "ShortenProgramsLaw" 32 "java/lang/IllegalArgumentException" : Cond) ∈ wA := wA_s8 _ (List.mem_of_getElem? (i := 16) rfl)
theorem wi_337 : (.methodLink "ShortenProgramsLaw" 29 yS_judge : Cond) ∈ wA := wA_s8 _ (List.mem_of_getElem? (i := 17) rfl)
theorem wi_338 : (.instanceMethod yS_judge : Cond) ∈ wA := wA_s8 _ (List.mem_of_getElem? (i := 18) rfl)
theorem wi_339 : (.selects "ShortenPrograms" yS_judge yS_judge : Cond) ∈ wA := wA_s8 _ (List.mem_of_getElem? (i := 19) rfl)
theorem wi_340 : (.code yS_judge prog_1_method_6_code 3 (some .int) : Cond) ∈ wA := wA_s8 _ (List.mem_of_getElem? (i := 20) rfl)
theorem wi_341 : (.classLink "ShortenPrograms" 107 "java/lang/IllegalArgumentException" : Cond) ∈ wA := wA_s8 _ (List.mem_of_getElem? (i := 21) rfl)
theorem wi_342 : (.instantiable "java/lang/IllegalArgumentException" 6 : Cond) ∈ wA := wA_s8 _ (List.mem_of_getElem? (i := 22) rfl)
theorem wi_343 : (.selects "java/lang/IllegalArgumentException" ⟨"java/lang/Throwable", "fillInStackTrace", "(I)Ljava/lang/Throwable;"⟩ ⟨"java/lang/Throwable", "fillInStackTrace", "(I)Ljava/lang/Throwable;"⟩ : Cond) ∈ wA := wA_s8 _ (List.mem_of_getElem? (i := 23) rfl)
theorem wi_344 : (.lays "java/lang/IllegalArgumentException" "java/lang/Throwable" "cause" "Ljava/lang/Throwable;" : Cond) ∈ wA := wA_s8 _ (List.mem_of_getElem? (i := 24) rfl)
theorem wi_345 : (.lays "java/lang/IllegalArgumentException" "java/lang/Throwable" "stackTrace" "[Ljava/lang/StackTraceElement;" : Cond) ∈ wA := wA_s8 _ (List.mem_of_getElem? (i := 25) rfl)
theorem wi_346 : (.lays "java/lang/IllegalArgumentException" "java/lang/Throwable" "suppressedExceptions" "Ljava/util/List;" : Cond) ∈ wA := wA_s8 _ (List.mem_of_getElem? (i := 26) rfl)
theorem wi_347 : (.lays "java/lang/IllegalArgumentException" "java/lang/Throwable" "detailMessage" "Ljava/lang/String;" : Cond) ∈ wA := wA_s8 _ (List.mem_of_getElem? (i := 27) rfl)
theorem wi_348 : (.lays "java/lang/IllegalArgumentException" "java/lang/Throwable" "backtrace" "Ljava/lang/Object;" : Cond) ∈ wA := wA_s8 _ (List.mem_of_getElem? (i := 28) rfl)
theorem wi_349 : (.methodLink "ShortenPrograms" 111 ⟨"java/lang/IllegalArgumentException", "<init>", "(Ljava/lang/String;)V"⟩ : Cond) ∈ wA := wA_s8 _ (List.mem_of_getElem? (i := 29) rfl)
theorem wi_350 : (.instanceMethod ⟨"java/lang/IllegalArgumentException", "<init>", "(Ljava/lang/String;)V"⟩ : Cond) ∈ wA := wA_s8 _ (List.mem_of_getElem? (i := 30) rfl)
theorem wi_351 : (.code ⟨"java/lang/IllegalArgumentException", "<init>", "(Ljava/lang/String;)V"⟩ prog_9_method_2_code 2 none : Cond) ∈ wA := wA_s8 _ (List.mem_of_getElem? (i := 31) rfl)
theorem wi_352 : (.methodLink "java/lang/IllegalArgumentException" 7 ⟨"java/lang/RuntimeException", "<init>", "(Ljava/lang/String;)V"⟩ : Cond) ∈ wA := wA_s8 _ (List.mem_of_getElem? (i := 32) rfl)
theorem wi_353 : (.lays "java/lang/IllegalArgumentException" "java/lang/Throwable" "depth" "I" : Cond) ∈ wA := wA_s8 _ (List.mem_of_getElem? (i := 33) rfl)
theorem wi_354 : (.superclass "java/lang/IllegalArgumentException" "java/lang/RuntimeException" : Cond) ∈ wA := wA_s8 _ (List.mem_of_getElem? (i := 34) rfl)
theorem wi_355 : (.methodLink "ShortenPrograms" 112 yA_setAnswer : Cond) ∈ wA := wA_s8 _ (List.mem_of_getElem? (i := 35) rfl)
theorem wi_356 : (.instanceMethod yA_setAnswer : Cond) ∈ wA := wA_s8 _ (List.mem_of_getElem? (i := 36) rfl)
theorem wi_357 : (.selects "ShortenPrograms$Ask" yA_setAnswer yA_setAnswer : Cond) ∈ wA := wA_s8 _ (List.mem_of_getElem? (i := 37) rfl)
theorem wi_358 : (.code yA_setAnswer prog_2_method_4_code 2 none : Cond) ∈ wA := wA_s8 _ (List.mem_of_getElem? (i := 38) rfl)
theorem wi_359 : (.methodLink "ShortenPrograms" 115 yS_takeFirst : Cond) ∈ wA := wA_s8 _ (List.mem_of_getElem? (i := 39) rfl)
theorem wi_360 : (.instanceMethod yS_takeFirst : Cond) ∈ wA := wA_s9 _ (List.mem_of_getElem? (i := 0) rfl)
theorem wi_361 : (.code yS_takeFirst prog_1_method_13_code 2 none : Cond) ∈ wA := wA_s9 _ (List.mem_of_getElem? (i := 1) rfl)
theorem wi_362 : (.methodLink "ShortenPrograms" 179 ⟨"java/lang/Math", "max", "(II)I"⟩ : Cond) ∈ wA := wA_s9 _ (List.mem_of_getElem? (i := 2) rfl)
theorem wi_363 : (.static ⟨"java/lang/Math", "max", "(II)I"⟩ : Cond) ∈ wA := wA_s9 _ (List.mem_of_getElem? (i := 3) rfl)
theorem wi_364 : (.code ⟨"java/lang/Math", "max", "(II)I"⟩ prog_12_method_65_code 2 (some .int) : Cond) ∈ wA := wA_s9 _ (List.mem_of_getElem? (i := 4) rfl)
theorem wi_365 : (.methodLink "ShortenPrograms" 183 yW_startLeaving : Cond) ∈ wA := wA_s9 _ (List.mem_of_getElem? (i := 5) rfl)
theorem wi_366 : (.instanceMethod yW_startLeaving : Cond) ∈ wA := wA_s9 _ (List.mem_of_getElem? (i := 6) rfl)
theorem wi_367 : (.selects "ShortenPrograms$Walk" yW_startLeaving yW_startLeaving : Cond) ∈ wA := wA_s9 _ (List.mem_of_getElem? (i := 7) rfl)
theorem wi_368 : (.code yW_startLeaving prog_5_method_5_code 2 none : Cond) ∈ wA := wA_s9 _ (List.mem_of_getElem? (i := 8) rfl)
theorem wi_369 : (.methodLink "ShortenPrograms$Walk" 18 yW_startGoingThrough : Cond) ∈ wA := wA_s9 _ (List.mem_of_getElem? (i := 9) rfl)
theorem wi_370 : (.instanceMethod yW_startGoingThrough : Cond) ∈ wA := wA_s9 _ (List.mem_of_getElem? (i := 10) rfl)
theorem wi_371 : (.code yW_startGoingThrough prog_5_method_6_code 2 none : Cond) ∈ wA := wA_s9 _ (List.mem_of_getElem? (i := 11) rfl)
theorem wi_372 : (.methodLink "ShortenPrograms" 118 yS_take : Cond) ∈ wA := wA_s9 _ (List.mem_of_getElem? (i := 12) rfl)
theorem wi_373 : (.instanceMethod yS_take : Cond) ∈ wA := wA_s9 _ (List.mem_of_getElem? (i := 13) rfl)
theorem wi_374 : (.code yS_take prog_1_method_14_code 3 none : Cond) ∈ wA := wA_s9 _ (List.mem_of_getElem? (i := 14) rfl)
theorem wi_375 : (.methodLink "ShortenPrograms" 186 yW_passOver : Cond) ∈ wA := wA_s9 _ (List.mem_of_getElem? (i := 15) rfl)
theorem wi_376 : (.instanceMethod yW_passOver : Cond) ∈ wA := wA_s9 _ (List.mem_of_getElem? (i := 16) rfl)
theorem wi_377 : (.selects "ShortenPrograms$Walk" yW_passOver yW_passOver : Cond) ∈ wA := wA_s9 _ (List.mem_of_getElem? (i := 17) rfl)
theorem wi_378 : (.code yW_passOver prog_5_method_14_code 1 none : Cond) ∈ wA := wA_s9 _ (List.mem_of_getElem? (i := 18) rfl)
theorem wi_379 : (.methodLink "ShortenPrograms$Walk" 79 yW_nextByte : Cond) ∈ wA := wA_s9 _ (List.mem_of_getElem? (i := 19) rfl)
theorem wi_380 : (.instanceMethod yW_nextByte : Cond) ∈ wA := wA_s9 _ (List.mem_of_getElem? (i := 20) rfl)
theorem wi_381 : (.code yW_nextByte prog_5_method_15_code 1 none : Cond) ∈ wA := wA_s9 _ (List.mem_of_getElem? (i := 21) rfl)
theorem wi_382 : (.methodLink "ShortenPrograms" 189 yW_change : Cond) ∈ wA := wA_s9 _ (List.mem_of_getElem? (i := 22) rfl)
theorem wi_383 : (.instanceMethod yW_change : Cond) ∈ wA := wA_s9 _ (List.mem_of_getElem? (i := 23) rfl)
theorem wi_384 : (.selects "ShortenPrograms$Walk" yW_change yW_change : Cond) ∈ wA := wA_s9 _ (List.mem_of_getElem? (i := 24) rfl)
theorem wi_385 : (.code yW_change prog_5_method_12_code 3 none : Cond) ∈ wA := wA_s9 _ (List.mem_of_getElem? (i := 25) rfl)
theorem wi_386 : (.methodLink "ShortenPrograms$Walk" 71 yP_leaveOut : Cond) ∈ wA := wA_s9 _ (List.mem_of_getElem? (i := 26) rfl)
theorem wi_387 : (.instanceMethod yP_leaveOut : Cond) ∈ wA := wA_s9 _ (List.mem_of_getElem? (i := 27) rfl)
theorem wi_388 : (.selects "ShortenPrograms$Program" yP_leaveOut yP_leaveOut : Cond) ∈ wA := wA_s9 _ (List.mem_of_getElem? (i := 28) rfl)
theorem wi_389 : (.code yP_leaveOut prog_4_method_10_code 5 none : Cond) ∈ wA := wA_s9 _ (List.mem_of_getElem? (i := 29) rfl)
theorem wi_390 : (.methodLink "ShortenPrograms$Walk" 51 yP_byteOf : Cond) ∈ wA := wA_s9 _ (List.mem_of_getElem? (i := 30) rfl)
theorem wi_391 : (.instanceMethod yP_byteOf : Cond) ∈ wA := wA_s9 _ (List.mem_of_getElem? (i := 31) rfl)
theorem wi_392 : (.selects "ShortenPrograms$Program" yP_byteOf yP_byteOf : Cond) ∈ wA := wA_s9 _ (List.mem_of_getElem? (i := 32) rfl)
theorem wi_393 : (.code yP_byteOf prog_4_method_11_code 3 (some .int) : Cond) ∈ wA := wA_s9 _ (List.mem_of_getElem? (i := 33) rfl)
theorem wi_394 : (.methodLink "ShortenPrograms$Program" 32 yP_word : Cond) ∈ wA := wA_s9 _ (List.mem_of_getElem? (i := 34) rfl)
theorem wi_395 : (.methodLink "ShortenPrograms$Program" 36 yP_shift : Cond) ∈ wA := wA_s9 _ (List.mem_of_getElem? (i := 35) rfl)
theorem wi_396 : (.static yP_shift : Cond) ∈ wA := wA_s9 _ (List.mem_of_getElem? (i := 36) rfl)
theorem wi_397 : (.code yP_shift prog_4_method_13_code 1 (some .int) : Cond) ∈ wA := wA_s9 _ (List.mem_of_getElem? (i := 37) rfl)
theorem wi_398 : (.methodLink "ShortenPrograms$Walk" 67 yW_lowerValue : Cond) ∈ wA := wA_s9 _ (List.mem_of_getElem? (i := 38) rfl)
theorem wi_399 : (.instanceMethod yW_lowerValue : Cond) ∈ wA := wA_s9 _ (List.mem_of_getElem? (i := 39) rfl)
theorem wi_400 : (.code yW_lowerValue prog_5_method_11_code 2 (some .int) : Cond) ∈ wA := wA_s10 _ (List.mem_of_getElem? (i := 0) rfl)
theorem wi_401 : (.methodLink "ShortenPrograms$Walk" 75 yP_setByte : Cond) ∈ wA := wA_s10 _ (List.mem_of_getElem? (i := 1) rfl)
theorem wi_402 : (.instanceMethod yP_setByte : Cond) ∈ wA := wA_s10 _ (List.mem_of_getElem? (i := 2) rfl)
theorem wi_403 : (.selects "ShortenPrograms$Program" yP_setByte yP_setByte : Cond) ∈ wA := wA_s10 _ (List.mem_of_getElem? (i := 3) rfl)
theorem wi_404 : (.code yP_setByte prog_4_method_12_code 5 none : Cond) ∈ wA := wA_s10 _ (List.mem_of_getElem? (i := 4) rfl)
theorem wi_405 : (.methodLink "ShortenPrograms" 192 yW_isLowering : Cond) ∈ wA := wA_s10 _ (List.mem_of_getElem? (i := 5) rfl)
theorem wi_406 : (.instanceMethod yW_isLowering : Cond) ∈ wA := wA_s10 _ (List.mem_of_getElem? (i := 6) rfl)
theorem wi_407 : (.selects "ShortenPrograms$Walk" yW_isLowering yW_isLowering : Cond) ∈ wA := wA_s10 _ (List.mem_of_getElem? (i := 7) rfl)
theorem wi_408 : (.code yW_isLowering prog_5_method_3_code 1 (some .boolean) : Cond) ∈ wA := wA_s10 _ (List.mem_of_getElem? (i := 8) rfl)
theorem wi_409 : (.methodLink "ShortenPrograms" 195 yW_goOn : Cond) ∈ wA := wA_s10 _ (List.mem_of_getElem? (i := 9) rfl)
theorem wi_410 : (.instanceMethod yW_goOn : Cond) ∈ wA := wA_s10 _ (List.mem_of_getElem? (i := 10) rfl)
theorem wi_411 : (.selects "ShortenPrograms$Walk" yW_goOn yW_goOn : Cond) ∈ wA := wA_s10 _ (List.mem_of_getElem? (i := 11) rfl)
theorem wi_412 : (.code yW_goOn prog_5_method_13_code 1 none : Cond) ∈ wA := wA_s10 _ (List.mem_of_getElem? (i := 12) rfl)
theorem wi_413 : (.methodLink "ShortenPrograms" 121 yS_askNext : Cond) ∈ wA := wA_s10 _ (List.mem_of_getElem? (i := 13) rfl)
theorem wi_414 : (.instanceMethod yS_askNext : Cond) ∈ wA := wA_s10 _ (List.mem_of_getElem? (i := 14) rfl)
theorem wi_415 : (.code yS_askNext prog_1_method_15_code 3 none : Cond) ∈ wA := wA_s10 _ (List.mem_of_getElem? (i := 15) rfl)
theorem wi_416 : (.constant "ShortenPrograms" 198 (1000000) : Cond) ∈ wA := wA_s10 _ (List.mem_of_getElem? (i := 16) rfl)
theorem wi_417 : (.methodLink "ShortenPrograms" 199 yW_findChange : Cond) ∈ wA := wA_s10 _ (List.mem_of_getElem? (i := 17) rfl)
theorem wi_418 : (.instanceMethod yW_findChange : Cond) ∈ wA := wA_s10 _ (List.mem_of_getElem? (i := 18) rfl)
theorem wi_419 : (.selects "ShortenPrograms$Walk" yW_findChange yW_findChange : Cond) ∈ wA := wA_s10 _ (List.mem_of_getElem? (i := 19) rfl)
theorem wi_420 : (.code yW_findChange prog_5_method_8_code 3 (some .boolean) : Cond) ∈ wA := wA_s10 _ (List.mem_of_getElem? (i := 20) rfl)
theorem wi_421 : (.constant "ShortenPrograms$Walk" 41 (1000000) : Cond) ∈ wA := wA_s10 _ (List.mem_of_getElem? (i := 21) rfl)
theorem wi_422 : (.methodLink "ShortenPrograms$Walk" 42 yP_has : Cond) ∈ wA := wA_s10 _ (List.mem_of_getElem? (i := 22) rfl)
theorem wi_423 : (.methodLink "ShortenPrograms$Walk" 48 yW_endGoingThrough : Cond) ∈ wA := wA_s10 _ (List.mem_of_getElem? (i := 23) rfl)
theorem wi_424 : (.instanceMethod yW_endGoingThrough : Cond) ∈ wA := wA_s10 _ (List.mem_of_getElem? (i := 24) rfl)
theorem wi_425 : (.code yW_endGoingThrough prog_5_method_9_code 1 none : Cond) ∈ wA := wA_s10 _ (List.mem_of_getElem? (i := 25) rfl)
theorem wi_426 : (.methodLink "ShortenPrograms$Walk" 64 yW_startLowering : Cond) ∈ wA := wA_s10 _ (List.mem_of_getElem? (i := 26) rfl)
theorem wi_427 : (.instanceMethod yW_startLowering : Cond) ∈ wA := wA_s10 _ (List.mem_of_getElem? (i := 27) rfl)
theorem wi_428 : (.code yW_startLowering prog_5_method_7_code 1 none : Cond) ∈ wA := wA_s10 _ (List.mem_of_getElem? (i := 28) rfl)
theorem wi_429 : (.methodLink "ShortenPrograms$Walk" 55 yW_canLower : Cond) ∈ wA := wA_s10 _ (List.mem_of_getElem? (i := 29) rfl)
theorem wi_430 : (.instanceMethod yW_canLower : Cond) ∈ wA := wA_s10 _ (List.mem_of_getElem? (i := 30) rfl)
theorem wi_431 : (.code yW_canLower prog_5_method_10_code 2 (some .boolean) : Cond) ∈ wA := wA_s10 _ (List.mem_of_getElem? (i := 31) rfl)
theorem wi_432 : (.methodLink "ShortenPrograms$Walk" 58 yW_passOver : Cond) ∈ wA := wA_s10 _ (List.mem_of_getElem? (i := 32) rfl)
theorem wi_433 : (.methodLink "ShortenPrograms$Walk" 61 yW_startLeaving : Cond) ∈ wA := wA_s10 _ (List.mem_of_getElem? (i := 33) rfl)
theorem wi_434 : (.methodLink "ShortenPrograms" 135 yP_copy : Cond) ∈ wA := wA_s10 _ (List.mem_of_getElem? (i := 34) rfl)
theorem wi_435 : (.methodLink "ShortenPrograms" 146 yM_find : Cond) ∈ wA := wA_s10 _ (List.mem_of_getElem? (i := 35) rfl)
theorem wi_436 : (.instanceMethod yM_find : Cond) ∈ wA := wA_s10 _ (List.mem_of_getElem? (i := 36) rfl)
theorem wi_437 : (.selects "ShortenPrograms$Memory" yM_find yM_find : Cond) ∈ wA := wA_s10 _ (List.mem_of_getElem? (i := 37) rfl)
theorem wi_438 : (.code yM_find prog_3_method_6_code 5 (some (.object "ShortenPrograms$Ask")) : Cond) ∈ wA := wA_s10 _ (List.mem_of_getElem? (i := 38) rfl)
theorem wi_439 : (.methodLink "ShortenPrograms$Memory" 26 yP_mark : Cond) ∈ wA := wA_s10 _ (List.mem_of_getElem? (i := 39) rfl)
theorem wi_440 : (.methodLink "ShortenPrograms$Memory" 32 yA_isOf : Cond) ∈ wA := wA_s11 _ (List.mem_of_getElem? (i := 0) rfl)
theorem wi_441 : (.instanceMethod yA_isOf : Cond) ∈ wA := wA_s11 _ (List.mem_of_getElem? (i := 1) rfl)
theorem wi_442 : (.selects "ShortenPrograms$Ask" yA_isOf yA_isOf : Cond) ∈ wA := wA_s11 _ (List.mem_of_getElem? (i := 2) rfl)
theorem wi_443 : (.code yA_isOf prog_2_method_6_code 3 (some .boolean) : Cond) ∈ wA := wA_s11 _ (List.mem_of_getElem? (i := 3) rfl)
theorem wi_444 : (.methodLink "ShortenPrograms$Ask" 32 yP_hasSameWords : Cond) ∈ wA := wA_s11 _ (List.mem_of_getElem? (i := 4) rfl)
theorem wi_445 : (.instanceMethod yP_hasSameWords : Cond) ∈ wA := wA_s11 _ (List.mem_of_getElem? (i := 5) rfl)
theorem wi_446 : (.selects "ShortenPrograms$Program" yP_hasSameWords yP_hasSameWords : Cond) ∈ wA := wA_s11 _ (List.mem_of_getElem? (i := 6) rfl)
theorem wi_447 : (.code yP_hasSameWords prog_4_method_14_code 3 (some .boolean) : Cond) ∈ wA := wA_s11 _ (List.mem_of_getElem? (i := 7) rfl)
theorem wi_448 : (.methodLink "ShortenPrograms" 203 yS_ask : Cond) ∈ wA := wA_s11 _ (List.mem_of_getElem? (i := 8) rfl)
theorem wi_449 : (.instanceMethod yS_ask : Cond) ∈ wA := wA_s11 _ (List.mem_of_getElem? (i := 9) rfl)
theorem wi_450 : (.code yS_ask prog_1_method_16_code 1 none : Cond) ∈ wA := wA_s11 _ (List.mem_of_getElem? (i := 10) rfl)
theorem wi_451 : (.methodLink "ShortenPrograms" 150 yA_answer : Cond) ∈ wA := wA_s11 _ (List.mem_of_getElem? (i := 11) rfl)
theorem wi_452 : (.instanceMethod yA_answer : Cond) ∈ wA := wA_s11 _ (List.mem_of_getElem? (i := 12) rfl)
theorem wi_453 : (.selects "ShortenPrograms$Ask" yA_answer yA_answer : Cond) ∈ wA := wA_s11 _ (List.mem_of_getElem? (i := 13) rfl)
theorem wi_454 : (.code yA_answer prog_2_method_3_code 1 (some .int) : Cond) ∈ wA := wA_s11 _ (List.mem_of_getElem? (i := 14) rfl)
theorem wi_455 : (.methodLink "ShortenProgramsLaw" 77 yL_at : Cond) ∈ wA := wA_s11 _ (List.mem_of_getElem? (i := 15) rfl)
theorem wi_456 : (.static yL_at : Cond) ∈ wA := wA_s11 _ (List.mem_of_getElem? (i := 16) rfl)
theorem wi_457 : (.codeWith yL_at method_8_code 4 (some .int) [(0, 9, 12, 23)] : Cond) ∈ wA := wA_s11 _ (List.mem_of_getElem? (i := 17) rfl)
theorem wi_458 : (.methodLink "ShortenProgramsLaw" 34 yS_at : Cond) ∈ wA := wA_s11 _ (List.mem_of_getElem? (i := 18) rfl)
theorem wi_459 : (.instanceMethod yS_at : Cond) ∈ wA := wA_s11 _ (List.mem_of_getElem? (i := 19) rfl)
theorem wi_460 : (.selects "ShortenPrograms" yS_at yS_at : Cond) ∈ wA := wA_s11 _ (List.mem_of_getElem? (i := 20) rfl)
theorem wi_461 : (.code yS_at prog_1_method_7_code 2 (some .int) : Cond) ∈ wA := wA_s11 _ (List.mem_of_getElem? (i := 21) rfl)
theorem wi_462 : (.methodLink "ShortenProgramsLaw" 80 yL_from : Cond) ∈ wA := wA_s11 _ (List.mem_of_getElem? (i := 22) rfl)
theorem wi_463 : (.static yL_from : Cond) ∈ wA := wA_s11 _ (List.mem_of_getElem? (i := 23) rfl)
theorem wi_464 : (.codeWith yL_from method_9_code 4 (some .int) [(0, 9, 12, 23)] : Cond) ∈ wA := wA_s11 _ (List.mem_of_getElem? (i := 24) rfl)
theorem wi_465 : (.methodLink "ShortenProgramsLaw" 37 yS_from : Cond) ∈ wA := wA_s11 _ (List.mem_of_getElem? (i := 25) rfl)
theorem wi_466 : (.instanceMethod yS_from : Cond) ∈ wA := wA_s11 _ (List.mem_of_getElem? (i := 26) rfl)
theorem wi_467 : (.selects "ShortenPrograms" yS_from yS_from : Cond) ∈ wA := wA_s11 _ (List.mem_of_getElem? (i := 27) rfl)
theorem wi_468 : (.code yS_from prog_1_method_8_code 2 (some .int) : Cond) ∈ wA := wA_s11 _ (List.mem_of_getElem? (i := 28) rfl)
theorem wi_469 : (.methodLink "ShortenPrograms" 126 yP_origin : Cond) ∈ wA := wA_s11 _ (List.mem_of_getElem? (i := 29) rfl)
theorem wi_470 : (.instanceMethod yP_origin : Cond) ∈ wA := wA_s11 _ (List.mem_of_getElem? (i := 30) rfl)
theorem wi_471 : (.selects "ShortenPrograms$Program" yP_origin yP_origin : Cond) ∈ wA := wA_s11 _ (List.mem_of_getElem? (i := 31) rfl)
theorem wi_472 : (.code yP_origin prog_4_method_6_code 2 (some .int) : Cond) ∈ wA := wA_s11 _ (List.mem_of_getElem? (i := 32) rfl)
theorem wi_473 : (.methodLink "ShortenProgramsLaw" 83 yL_known : Cond) ∈ wA := wA_s11 _ (List.mem_of_getElem? (i := 33) rfl)
theorem wi_474 : (.static yL_known : Cond) ∈ wA := wA_s11 _ (List.mem_of_getElem? (i := 34) rfl)
theorem wi_475 : (.codeWith yL_known method_10_code 7 (some .int) [(0, 14, 17, 23), (0, 14, 21, 32)] : Cond) ∈ wA := wA_s11 _ (List.mem_of_getElem? (i := 35) rfl)
theorem wi_476 : (.methodLink "ShortenProgramsLaw" 40 yS_known : Cond) ∈ wA := wA_s11 _ (List.mem_of_getElem? (i := 36) rfl)
theorem wi_477 : (.instanceMethod yS_known : Cond) ∈ wA := wA_s11 _ (List.mem_of_getElem? (i := 37) rfl)
theorem wi_478 : (.selects "ShortenPrograms" yS_known yS_known : Cond) ∈ wA := wA_s11 _ (List.mem_of_getElem? (i := 38) rfl)
theorem wi_479 : (.code yS_known prog_1_method_9_code 6 (some .int) : Cond) ∈ wA := wA_s11 _ (List.mem_of_getElem? (i := 39) rfl)
theorem wi_480 : (.methodLink "ShortenPrograms" 138 yP_leaveOut : Cond) ∈ wA := wA_s12 _ (List.mem_of_getElem? (i := 0) rfl)
theorem wi_481 : (.methodLink "ShortenPrograms" 142 yP_setByte : Cond) ∈ wA := wA_s12 _ (List.mem_of_getElem? (i := 1) rfl)
theorem wi_482 : (.classLink "ShortenProgramsLaw" 53 "ShortenProgramsModel" : Cond) ∈ wA := wA_s12 _ (List.mem_of_getElem? (i := 2) rfl)
theorem wi_483 : (.instantiable "ShortenProgramsModel" 27 : Cond) ∈ wA := wA_s12 _ (List.mem_of_getElem? (i := 3) rfl)
theorem wi_484 : (.methodLink "ShortenProgramsLaw" 55 yD_init : Cond) ∈ wA := wA_s12 _ (List.mem_of_getElem? (i := 4) rfl)
theorem wi_485 : (.instanceMethod yD_init : Cond) ∈ wA := wA_s12 _ (List.mem_of_getElem? (i := 5) rfl)
theorem wi_486 : (.code yD_init prog_7_method_1_code 3 none : Cond) ∈ wA := wA_s12 _ (List.mem_of_getElem? (i := 6) rfl)
theorem wi_487 : (.methodLink "ShortenProgramsModel" 1 ⟨"java/lang/Object", "<init>", "()V"⟩ : Cond) ∈ wA := wA_s12 _ (List.mem_of_getElem? (i := 7) rfl)
theorem wi_488 : (.fieldLink "ShortenProgramsModel" 35 "ShortenProgramsModel" "thrown" "I" : Cond) ∈ wA := wA_s12 _ (List.mem_of_getElem? (i := 8) rfl)
theorem wi_489 : (.fieldLink "ShortenProgramsModel" 32 "ShortenProgramsModel" "budget" "I" : Cond) ∈ wA := wA_s12 _ (List.mem_of_getElem? (i := 9) rfl)
theorem wi_490 : (.fieldLink "ShortenProgramsModel" 38 "ShortenProgramsModel" "state" "I" : Cond) ∈ wA := wA_s12 _ (List.mem_of_getElem? (i := 10) rfl)
theorem wi_491 : (.fieldLink "ShortenProgramsModel" 41 "ShortenProgramsModel" "size" "I" : Cond) ∈ wA := wA_s12 _ (List.mem_of_getElem? (i := 11) rfl)
theorem wi_492 : (.fieldLink "ShortenProgramsModel" 7 "ShortenProgramsModel" "word" "[I" : Cond) ∈ wA := wA_s12 _ (List.mem_of_getElem? (i := 12) rfl)
theorem wi_493 : (.fieldLink "ShortenProgramsModel" 13 "ShortenProgramsModel" "origin" "[I" : Cond) ∈ wA := wA_s12 _ (List.mem_of_getElem? (i := 13) rfl)
theorem wi_494 : (.fieldLink "ShortenProgramsModel" 66 "ShortenProgramsModel" "candSize" "I" : Cond) ∈ wA := wA_s12 _ (List.mem_of_getElem? (i := 14) rfl)
theorem wi_495 : (.fieldLink "ShortenProgramsModel" 16 "ShortenProgramsModel" "cand" "[I" : Cond) ∈ wA := wA_s12 _ (List.mem_of_getElem? (i := 15) rfl)
theorem wi_496 : (.fieldLink "ShortenProgramsModel" 146 "ShortenProgramsModel" "isFirst" "Z" : Cond) ∈ wA := wA_s12 _ (List.mem_of_getElem? (i := 16) rfl)
theorem wi_497 : (.fieldLink "ShortenProgramsModel" 86 "ShortenProgramsModel" "isLowering" "Z" : Cond) ∈ wA := wA_s12 _ (List.mem_of_getElem? (i := 17) rfl)
theorem wi_498 : (.fieldLink "ShortenProgramsModel" 96 "ShortenProgramsModel" "someGood" "Z" : Cond) ∈ wA := wA_s12 _ (List.mem_of_getElem? (i := 18) rfl)
theorem wi_499 : (.fieldLink "ShortenProgramsModel" 99 "ShortenProgramsModel" "wasLowered" "Z" : Cond) ∈ wA := wA_s12 _ (List.mem_of_getElem? (i := 19) rfl)
theorem wi_500 : (.fieldLink "ShortenProgramsModel" 90 "ShortenProgramsModel" "piece" "I" : Cond) ∈ wA := wA_s12 _ (List.mem_of_getElem? (i := 20) rfl)
theorem wi_501 : (.fieldLink "ShortenProgramsModel" 93 "ShortenProgramsModel" "place" "I" : Cond) ∈ wA := wA_s12 _ (List.mem_of_getElem? (i := 21) rfl)
theorem wi_502 : (.fieldLink "ShortenProgramsModel" 73 "ShortenProgramsModel" "atWord" "I" : Cond) ∈ wA := wA_s12 _ (List.mem_of_getElem? (i := 22) rfl)
theorem wi_503 : (.fieldLink "ShortenProgramsModel" 76 "ShortenProgramsModel" "atByte" "I" : Cond) ∈ wA := wA_s12 _ (List.mem_of_getElem? (i := 23) rfl)
theorem wi_504 : (.fieldLink "ShortenProgramsModel" 83 "ShortenProgramsModel" "how" "I" : Cond) ∈ wA := wA_s12 _ (List.mem_of_getElem? (i := 24) rfl)
theorem wi_505 : (.fieldLink "ShortenProgramsModel" 19 "ShortenProgramsModel" "difference" "I" : Cond) ∈ wA := wA_s12 _ (List.mem_of_getElem? (i := 25) rfl)
theorem wi_506 : (.fieldLink "ShortenProgramsModel" 48 "ShortenProgramsModel" "asks" "I" : Cond) ∈ wA := wA_s12 _ (List.mem_of_getElem? (i := 26) rfl)
theorem wi_507 : (.fieldLink "ShortenProgramsModel" 23 "ShortenProgramsModel" "askedSize" "[I" : Cond) ∈ wA := wA_s12 _ (List.mem_of_getElem? (i := 27) rfl)
theorem wi_508 : (.fieldLink "ShortenProgramsModel" 26 "ShortenProgramsModel" "askedWord" "[I" : Cond) ∈ wA := wA_s12 _ (List.mem_of_getElem? (i := 28) rfl)
theorem wi_509 : (.fieldLink "ShortenProgramsModel" 29 "ShortenProgramsModel" "answer" "[I" : Cond) ∈ wA := wA_s12 _ (List.mem_of_getElem? (i := 29) rfl)
theorem wi_510 : (.fieldLink "ShortenProgramsModel" 51 "ShortenProgramsModel" "remembered" "I" : Cond) ∈ wA := wA_s12 _ (List.mem_of_getElem? (i := 30) rfl)
theorem wi_511 : (.fieldLink "ShortenProgramsModel" 54 "ShortenProgramsModel" "good" "I" : Cond) ∈ wA := wA_s12 _ (List.mem_of_getElem? (i := 31) rfl)
theorem wi_512 : (.fieldLink "ShortenProgramsModel" 57 "ShortenProgramsModel" "leftOut" "I" : Cond) ∈ wA := wA_s12 _ (List.mem_of_getElem? (i := 32) rfl)
theorem wi_513 : (.fieldLink "ShortenProgramsModel" 60 "ShortenProgramsModel" "lowered" "I" : Cond) ∈ wA := wA_s12 _ (List.mem_of_getElem? (i := 33) rfl)
theorem wi_514 : (.fieldLink "ShortenProgramsModel" 63 "ShortenProgramsModel" "begun" "I" : Cond) ∈ wA := wA_s12 _ (List.mem_of_getElem? (i := 34) rfl)
theorem wi_515 : (.lays "ShortenProgramsModel" "ShortenProgramsModel" "thrown" "I" : Cond) ∈ wA := wA_s12 _ (List.mem_of_getElem? (i := 35) rfl)
theorem wi_516 : (.soleField "ShortenProgramsModel" "thrown" : Cond) ∈ wA := wA_s12 _ (List.mem_of_getElem? (i := 36) rfl)
theorem wi_517 : (.laysFinal "ShortenProgramsModel" "ShortenProgramsModel" "budget" "I" : Cond) ∈ wA := wA_s12 _ (List.mem_of_getElem? (i := 37) rfl)
theorem wi_518 : (.soleField "ShortenProgramsModel" "budget" : Cond) ∈ wA := wA_s12 _ (List.mem_of_getElem? (i := 38) rfl)
theorem wi_519 : (.lays "ShortenProgramsModel" "ShortenProgramsModel" "state" "I" : Cond) ∈ wA := wA_s12 _ (List.mem_of_getElem? (i := 39) rfl)
theorem wi_520 : (.soleField "ShortenProgramsModel" "state" : Cond) ∈ wA := wA_s13 _ (List.mem_of_getElem? (i := 0) rfl)
theorem wi_521 : (.lays "ShortenProgramsModel" "ShortenProgramsModel" "size" "I" : Cond) ∈ wA := wA_s13 _ (List.mem_of_getElem? (i := 1) rfl)
theorem wi_522 : (.soleField "ShortenProgramsModel" "size" : Cond) ∈ wA := wA_s13 _ (List.mem_of_getElem? (i := 2) rfl)
theorem wi_523 : (.laysFinal "ShortenProgramsModel" "ShortenProgramsModel" "word" "[I" : Cond) ∈ wA := wA_s13 _ (List.mem_of_getElem? (i := 3) rfl)
theorem wi_524 : (.soleField "ShortenProgramsModel" "word" : Cond) ∈ wA := wA_s13 _ (List.mem_of_getElem? (i := 4) rfl)
theorem wi_525 : (.laysFinal "ShortenProgramsModel" "ShortenProgramsModel" "origin" "[I" : Cond) ∈ wA := wA_s13 _ (List.mem_of_getElem? (i := 5) rfl)
theorem wi_526 : (.soleField "ShortenProgramsModel" "origin" : Cond) ∈ wA := wA_s13 _ (List.mem_of_getElem? (i := 6) rfl)
theorem wi_527 : (.lays "ShortenProgramsModel" "ShortenProgramsModel" "candSize" "I" : Cond) ∈ wA := wA_s13 _ (List.mem_of_getElem? (i := 7) rfl)
theorem wi_528 : (.soleField "ShortenProgramsModel" "candSize" : Cond) ∈ wA := wA_s13 _ (List.mem_of_getElem? (i := 8) rfl)
theorem wi_529 : (.laysFinal "ShortenProgramsModel" "ShortenProgramsModel" "cand" "[I" : Cond) ∈ wA := wA_s13 _ (List.mem_of_getElem? (i := 9) rfl)
theorem wi_530 : (.soleField "ShortenProgramsModel" "cand" : Cond) ∈ wA := wA_s13 _ (List.mem_of_getElem? (i := 10) rfl)
theorem wi_531 : (.lays "ShortenProgramsModel" "ShortenProgramsModel" "isFirst" "Z" : Cond) ∈ wA := wA_s13 _ (List.mem_of_getElem? (i := 11) rfl)
theorem wi_532 : (.soleField "ShortenProgramsModel" "isFirst" : Cond) ∈ wA := wA_s13 _ (List.mem_of_getElem? (i := 12) rfl)
theorem wi_533 : (.lays "ShortenProgramsModel" "ShortenProgramsModel" "isLowering" "Z" : Cond) ∈ wA := wA_s13 _ (List.mem_of_getElem? (i := 13) rfl)
theorem wi_534 : (.soleField "ShortenProgramsModel" "isLowering" : Cond) ∈ wA := wA_s13 _ (List.mem_of_getElem? (i := 14) rfl)
theorem wi_535 : (.lays "ShortenProgramsModel" "ShortenProgramsModel" "someGood" "Z" : Cond) ∈ wA := wA_s13 _ (List.mem_of_getElem? (i := 15) rfl)
theorem wi_536 : (.soleField "ShortenProgramsModel" "someGood" : Cond) ∈ wA := wA_s13 _ (List.mem_of_getElem? (i := 16) rfl)
theorem wi_537 : (.lays "ShortenProgramsModel" "ShortenProgramsModel" "wasLowered" "Z" : Cond) ∈ wA := wA_s13 _ (List.mem_of_getElem? (i := 17) rfl)
theorem wi_538 : (.soleField "ShortenProgramsModel" "wasLowered" : Cond) ∈ wA := wA_s13 _ (List.mem_of_getElem? (i := 18) rfl)
theorem wi_539 : (.lays "ShortenProgramsModel" "ShortenProgramsModel" "piece" "I" : Cond) ∈ wA := wA_s13 _ (List.mem_of_getElem? (i := 19) rfl)
theorem wi_540 : (.soleField "ShortenProgramsModel" "piece" : Cond) ∈ wA := wA_s13 _ (List.mem_of_getElem? (i := 20) rfl)
theorem wi_541 : (.lays "ShortenProgramsModel" "ShortenProgramsModel" "place" "I" : Cond) ∈ wA := wA_s13 _ (List.mem_of_getElem? (i := 21) rfl)
theorem wi_542 : (.soleField "ShortenProgramsModel" "place" : Cond) ∈ wA := wA_s13 _ (List.mem_of_getElem? (i := 22) rfl)
theorem wi_543 : (.lays "ShortenProgramsModel" "ShortenProgramsModel" "atWord" "I" : Cond) ∈ wA := wA_s13 _ (List.mem_of_getElem? (i := 23) rfl)
theorem wi_544 : (.soleField "ShortenProgramsModel" "atWord" : Cond) ∈ wA := wA_s13 _ (List.mem_of_getElem? (i := 24) rfl)
theorem wi_545 : (.lays "ShortenProgramsModel" "ShortenProgramsModel" "atByte" "I" : Cond) ∈ wA := wA_s13 _ (List.mem_of_getElem? (i := 25) rfl)
theorem wi_546 : (.soleField "ShortenProgramsModel" "atByte" : Cond) ∈ wA := wA_s13 _ (List.mem_of_getElem? (i := 26) rfl)
theorem wi_547 : (.lays "ShortenProgramsModel" "ShortenProgramsModel" "how" "I" : Cond) ∈ wA := wA_s13 _ (List.mem_of_getElem? (i := 27) rfl)
theorem wi_548 : (.soleField "ShortenProgramsModel" "how" : Cond) ∈ wA := wA_s13 _ (List.mem_of_getElem? (i := 28) rfl)
theorem wi_549 : (.lays "ShortenProgramsModel" "ShortenProgramsModel" "difference" "I" : Cond) ∈ wA := wA_s13 _ (List.mem_of_getElem? (i := 29) rfl)
theorem wi_550 : (.soleField "ShortenProgramsModel" "difference" : Cond) ∈ wA := wA_s13 _ (List.mem_of_getElem? (i := 30) rfl)
theorem wi_551 : (.lays "ShortenProgramsModel" "ShortenProgramsModel" "asks" "I" : Cond) ∈ wA := wA_s13 _ (List.mem_of_getElem? (i := 31) rfl)
theorem wi_552 : (.soleField "ShortenProgramsModel" "asks" : Cond) ∈ wA := wA_s13 _ (List.mem_of_getElem? (i := 32) rfl)
theorem wi_553 : (.laysFinal "ShortenProgramsModel" "ShortenProgramsModel" "askedSize" "[I" : Cond) ∈ wA := wA_s13 _ (List.mem_of_getElem? (i := 33) rfl)
theorem wi_554 : (.soleField "ShortenProgramsModel" "askedSize" : Cond) ∈ wA := wA_s13 _ (List.mem_of_getElem? (i := 34) rfl)
theorem wi_555 : (.laysFinal "ShortenProgramsModel" "ShortenProgramsModel" "askedWord" "[I" : Cond) ∈ wA := wA_s13 _ (List.mem_of_getElem? (i := 35) rfl)
theorem wi_556 : (.soleField "ShortenProgramsModel" "askedWord" : Cond) ∈ wA := wA_s13 _ (List.mem_of_getElem? (i := 36) rfl)
theorem wi_557 : (.laysFinal "ShortenProgramsModel" "ShortenProgramsModel" "answer" "[I" : Cond) ∈ wA := wA_s13 _ (List.mem_of_getElem? (i := 37) rfl)
theorem wi_558 : (.soleField "ShortenProgramsModel" "answer" : Cond) ∈ wA := wA_s13 _ (List.mem_of_getElem? (i := 38) rfl)
theorem wi_559 : (.lays "ShortenProgramsModel" "ShortenProgramsModel" "remembered" "I" : Cond) ∈ wA := wA_s13 _ (List.mem_of_getElem? (i := 39) rfl)
theorem wi_560 : (.soleField "ShortenProgramsModel" "remembered" : Cond) ∈ wA := wA_s14 _ (List.mem_of_getElem? (i := 0) rfl)
theorem wi_561 : (.lays "ShortenProgramsModel" "ShortenProgramsModel" "good" "I" : Cond) ∈ wA := wA_s14 _ (List.mem_of_getElem? (i := 1) rfl)
theorem wi_562 : (.soleField "ShortenProgramsModel" "good" : Cond) ∈ wA := wA_s14 _ (List.mem_of_getElem? (i := 2) rfl)
theorem wi_563 : (.lays "ShortenProgramsModel" "ShortenProgramsModel" "leftOut" "I" : Cond) ∈ wA := wA_s14 _ (List.mem_of_getElem? (i := 3) rfl)
theorem wi_564 : (.soleField "ShortenProgramsModel" "leftOut" : Cond) ∈ wA := wA_s14 _ (List.mem_of_getElem? (i := 4) rfl)
theorem wi_565 : (.lays "ShortenProgramsModel" "ShortenProgramsModel" "lowered" "I" : Cond) ∈ wA := wA_s14 _ (List.mem_of_getElem? (i := 5) rfl)
theorem wi_566 : (.soleField "ShortenProgramsModel" "lowered" : Cond) ∈ wA := wA_s14 _ (List.mem_of_getElem? (i := 6) rfl)
theorem wi_567 : (.lays "ShortenProgramsModel" "ShortenProgramsModel" "begun" "I" : Cond) ∈ wA := wA_s14 _ (List.mem_of_getElem? (i := 7) rfl)
theorem wi_568 : (.soleField "ShortenProgramsModel" "begun" : Cond) ∈ wA := wA_s14 _ (List.mem_of_getElem? (i := 8) rfl)
theorem wi_569 : (.superclass "ShortenProgramsModel" "java/lang/Object" : Cond) ∈ wA := wA_s14 _ (List.mem_of_getElem? (i := 9) rfl)
theorem wi_570 : (.methodLink "ShortenProgramsLaw" 60 yD_thrown : Cond) ∈ wA := wA_s14 _ (List.mem_of_getElem? (i := 10) rfl)
theorem wi_571 : (.instanceMethod yD_thrown : Cond) ∈ wA := wA_s14 _ (List.mem_of_getElem? (i := 11) rfl)
theorem wi_572 : (.selects "ShortenProgramsModel" yD_thrown yD_thrown : Cond) ∈ wA := wA_s14 _ (List.mem_of_getElem? (i := 12) rfl)
theorem wi_573 : (.code yD_thrown prog_7_method_2_code 1 (some .int) : Cond) ∈ wA := wA_s14 _ (List.mem_of_getElem? (i := 13) rfl)
theorem wi_574 : (.methodLink "ShortenProgramsLaw" 59 yD_feed : Cond) ∈ wA := wA_s14 _ (List.mem_of_getElem? (i := 14) rfl)
theorem wi_575 : (.instanceMethod yD_feed : Cond) ∈ wA := wA_s14 _ (List.mem_of_getElem? (i := 15) rfl)
theorem wi_576 : (.selects "ShortenProgramsModel" yD_feed yD_feed : Cond) ∈ wA := wA_s14 _ (List.mem_of_getElem? (i := 16) rfl)
theorem wi_577 : (.code yD_feed prog_7_method_5_code 2 (some .int) : Cond) ∈ wA := wA_s14 _ (List.mem_of_getElem? (i := 17) rfl)
theorem wi_578 : (.methodLink "ShortenProgramsModel" 44 yD_fail : Cond) ∈ wA := wA_s14 _ (List.mem_of_getElem? (i := 18) rfl)
theorem wi_579 : (.instanceMethod yD_fail : Cond) ∈ wA := wA_s14 _ (List.mem_of_getElem? (i := 19) rfl)
theorem wi_580 : (.code yD_fail prog_7_method_3_code 2 (some .int) : Cond) ∈ wA := wA_s14 _ (List.mem_of_getElem? (i := 20) rfl)
theorem wi_581 : (.methodLink "ShortenProgramsLaw" 66 yD_begin : Cond) ∈ wA := wA_s14 _ (List.mem_of_getElem? (i := 21) rfl)
theorem wi_582 : (.instanceMethod yD_begin : Cond) ∈ wA := wA_s14 _ (List.mem_of_getElem? (i := 22) rfl)
theorem wi_583 : (.selects "ShortenProgramsModel" yD_begin yD_begin : Cond) ∈ wA := wA_s14 _ (List.mem_of_getElem? (i := 23) rfl)
theorem wi_584 : (.code yD_begin prog_7_method_22_code 1 none : Cond) ∈ wA := wA_s14 _ (List.mem_of_getElem? (i := 24) rfl)
theorem wi_585 : (.methodLink "ShortenProgramsModel" 105 yD_without : Cond) ∈ wA := wA_s14 _ (List.mem_of_getElem? (i := 25) rfl)
theorem wi_586 : (.instanceMethod yD_without : Cond) ∈ wA := wA_s14 _ (List.mem_of_getElem? (i := 26) rfl)
theorem wi_587 : (.code yD_without prog_7_method_8_code 4 none : Cond) ∈ wA := wA_s14 _ (List.mem_of_getElem? (i := 27) rfl)
theorem wi_588 : (.methodLink "ShortenProgramsModel" 140 yD_put : Cond) ∈ wA := wA_s14 _ (List.mem_of_getElem? (i := 28) rfl)
theorem wi_589 : (.instanceMethod yD_put : Cond) ∈ wA := wA_s14 _ (List.mem_of_getElem? (i := 29) rfl)
theorem wi_590 : (.code yD_put prog_7_method_21_code 2 none : Cond) ∈ wA := wA_s14 _ (List.mem_of_getElem? (i := 30) rfl)
theorem wi_591 : (.methodLink "ShortenProgramsLaw" 76 yD_judge : Cond) ∈ wA := wA_s14 _ (List.mem_of_getElem? (i := 31) rfl)
theorem wi_592 : (.instanceMethod yD_judge : Cond) ∈ wA := wA_s14 _ (List.mem_of_getElem? (i := 32) rfl)
theorem wi_593 : (.selects "ShortenProgramsModel" yD_judge yD_judge : Cond) ∈ wA := wA_s14 _ (List.mem_of_getElem? (i := 33) rfl)
theorem wi_594 : (.code yD_judge prog_7_method_23_code 2 (some .int) : Cond) ∈ wA := wA_s14 _ (List.mem_of_getElem? (i := 34) rfl)
theorem wi_595 : (.methodLink "ShortenProgramsModel" 112 yD_beginLeaving : Cond) ∈ wA := wA_s14 _ (List.mem_of_getElem? (i := 35) rfl)
theorem wi_596 : (.instanceMethod yD_beginLeaving : Cond) ∈ wA := wA_s14 _ (List.mem_of_getElem? (i := 36) rfl)
theorem wi_597 : (.code yD_beginLeaving prog_7_method_12_code 2 none : Cond) ∈ wA := wA_s14 _ (List.mem_of_getElem? (i := 37) rfl)
theorem wi_598 : (.methodLink "ShortenProgramsModel" 143 yD_answered : Cond) ∈ wA := wA_s14 _ (List.mem_of_getElem? (i := 38) rfl)
theorem wi_599 : (.instanceMethod yD_answered : Cond) ∈ wA := wA_s14 _ (List.mem_of_getElem? (i := 39) rfl)
theorem wi_600 : (.code yD_answered prog_7_method_19_code 3 none : Cond) ∈ wA := wA_s15 _ (List.mem_of_getElem? (i := 0) rfl)
theorem wi_601 : (.methodLink "ShortenProgramsModel" 127 yD_takeLeaving : Cond) ∈ wA := wA_s15 _ (List.mem_of_getElem? (i := 1) rfl)
theorem wi_602 : (.instanceMethod yD_takeLeaving : Cond) ∈ wA := wA_s15 _ (List.mem_of_getElem? (i := 2) rfl)
theorem wi_603 : (.code yD_takeLeaving prog_7_method_17_code 3 none : Cond) ∈ wA := wA_s15 _ (List.mem_of_getElem? (i := 3) rfl)
theorem wi_604 : (.methodLink "ShortenProgramsModel" 130 yD_takeLowering : Cond) ∈ wA := wA_s15 _ (List.mem_of_getElem? (i := 4) rfl)
theorem wi_605 : (.instanceMethod yD_takeLowering : Cond) ∈ wA := wA_s15 _ (List.mem_of_getElem? (i := 5) rfl)
theorem wi_606 : (.code yD_takeLowering prog_7_method_18_code 1 none : Cond) ∈ wA := wA_s15 _ (List.mem_of_getElem? (i := 6) rfl)
theorem wi_607 : (.methodLink "ShortenProgramsModel" 124 yD_nextByte : Cond) ∈ wA := wA_s15 _ (List.mem_of_getElem? (i := 7) rfl)
theorem wi_608 : (.instanceMethod yD_nextByte : Cond) ∈ wA := wA_s15 _ (List.mem_of_getElem? (i := 8) rfl)
theorem wi_609 : (.code yD_nextByte prog_7_method_14_code 1 none : Cond) ∈ wA := wA_s15 _ (List.mem_of_getElem? (i := 9) rfl)
theorem wi_610 : (.methodLink "ShortenProgramsModel" 149 yD_goOn : Cond) ∈ wA := wA_s15 _ (List.mem_of_getElem? (i := 10) rfl)
theorem wi_611 : (.instanceMethod yD_goOn : Cond) ∈ wA := wA_s15 _ (List.mem_of_getElem? (i := 11) rfl)
theorem wi_612 : (.code yD_goOn prog_7_method_20_code 2 none : Cond) ∈ wA := wA_s15 _ (List.mem_of_getElem? (i := 12) rfl)
theorem wi_613 : (.methodLink "ShortenProgramsModel" 133 yD_prepare : Cond) ∈ wA := wA_s15 _ (List.mem_of_getElem? (i := 13) rfl)
theorem wi_614 : (.instanceMethod yD_prepare : Cond) ∈ wA := wA_s15 _ (List.mem_of_getElem? (i := 14) rfl)
theorem wi_615 : (.code yD_prepare prog_7_method_16_code 2 (some .boolean) : Cond) ∈ wA := wA_s15 _ (List.mem_of_getElem? (i := 15) rfl)
theorem wi_616 : (.methodLink "ShortenProgramsModel" 109 yD_endPass : Cond) ∈ wA := wA_s15 _ (List.mem_of_getElem? (i := 16) rfl)
theorem wi_617 : (.instanceMethod yD_endPass : Cond) ∈ wA := wA_s15 _ (List.mem_of_getElem? (i := 17) rfl)
theorem wi_618 : (.code yD_endPass prog_7_method_15_code 2 none : Cond) ∈ wA := wA_s15 _ (List.mem_of_getElem? (i := 18) rfl)
theorem wi_619 : (.methodLink "ShortenProgramsModel" 102 yD_beginLowering : Cond) ∈ wA := wA_s15 _ (List.mem_of_getElem? (i := 19) rfl)
theorem wi_620 : (.instanceMethod yD_beginLowering : Cond) ∈ wA := wA_s15 _ (List.mem_of_getElem? (i := 20) rfl)
theorem wi_621 : (.code yD_beginLowering prog_7_method_13_code 1 none : Cond) ∈ wA := wA_s15 _ (List.mem_of_getElem? (i := 21) rfl)
theorem wi_622 : (.methodLink "ShortenProgramsModel" 116 yD_lowerTo : Cond) ∈ wA := wA_s15 _ (List.mem_of_getElem? (i := 22) rfl)
theorem wi_623 : (.instanceMethod yD_lowerTo : Cond) ∈ wA := wA_s15 _ (List.mem_of_getElem? (i := 23) rfl)
theorem wi_624 : (.code yD_lowerTo prog_7_method_11_code 3 (some .int) : Cond) ∈ wA := wA_s15 _ (List.mem_of_getElem? (i := 24) rfl)
theorem wi_625 : (.methodLink "ShortenProgramsModel" 79 yD_byteOf : Cond) ∈ wA := wA_s15 _ (List.mem_of_getElem? (i := 25) rfl)
theorem wi_626 : (.instanceMethod yD_byteOf : Cond) ∈ wA := wA_s15 _ (List.mem_of_getElem? (i := 26) rfl)
theorem wi_627 : (.code yD_byteOf prog_7_method_10_code 3 (some .int) : Cond) ∈ wA := wA_s15 _ (List.mem_of_getElem? (i := 27) rfl)
theorem wi_628 : (.methodLink "ShortenProgramsModel" 120 yD_withByte : Cond) ∈ wA := wA_s15 _ (List.mem_of_getElem? (i := 28) rfl)
theorem wi_629 : (.instanceMethod yD_withByte : Cond) ∈ wA := wA_s15 _ (List.mem_of_getElem? (i := 29) rfl)
theorem wi_630 : (.code yD_withByte prog_7_method_9_code 5 none : Cond) ∈ wA := wA_s15 _ (List.mem_of_getElem? (i := 30) rfl)
theorem wi_631 : (.methodLink "ShortenProgramsModel" 137 yD_find : Cond) ∈ wA := wA_s15 _ (List.mem_of_getElem? (i := 31) rfl)
theorem wi_632 : (.instanceMethod yD_find : Cond) ∈ wA := wA_s15 _ (List.mem_of_getElem? (i := 32) rfl)
theorem wi_633 : (.code yD_find prog_7_method_7_code 2 (some .int) : Cond) ∈ wA := wA_s15 _ (List.mem_of_getElem? (i := 33) rfl)
theorem wi_634 : (.methodLink "ShortenProgramsModel" 69 yD_isAsked : Cond) ∈ wA := wA_s15 _ (List.mem_of_getElem? (i := 34) rfl)
theorem wi_635 : (.instanceMethod yD_isAsked : Cond) ∈ wA := wA_s15 _ (List.mem_of_getElem? (i := 35) rfl)
theorem wi_636 : (.code yD_isAsked prog_7_method_6_code 3 (some .boolean) : Cond) ∈ wA := wA_s15 _ (List.mem_of_getElem? (i := 36) rfl)
theorem wi_637 : (.methodLink "ShortenProgramsLaw" 69 yD_asked : Cond) ∈ wA := wA_s15 _ (List.mem_of_getElem? (i := 37) rfl)
theorem wi_638 : (.instanceMethod yD_asked : Cond) ∈ wA := wA_s15 _ (List.mem_of_getElem? (i := 38) rfl)
theorem wi_639 : (.selects "ShortenProgramsModel" yD_asked yD_asked : Cond) ∈ wA := wA_s15 _ (List.mem_of_getElem? (i := 39) rfl)
theorem wi_640 : (.code yD_asked prog_7_method_24_code 2 (some .int) : Cond) ∈ wA := wA_s16 _ (List.mem_of_getElem? (i := 0) rfl)
theorem wi_641 : (.methodLink "ShortenProgramsModel" 152 yD_within : Cond) ∈ wA := wA_s16 _ (List.mem_of_getElem? (i := 1) rfl)
theorem wi_642 : (.static yD_within : Cond) ∈ wA := wA_s16 _ (List.mem_of_getElem? (i := 2) rfl)
theorem wi_643 : (.code yD_within prog_7_method_4_code 3 (some .boolean) : Cond) ∈ wA := wA_s16 _ (List.mem_of_getElem? (i := 3) rfl)
theorem wi_644 : (.methodLink "ShortenProgramsLaw" 73 yD_size : Cond) ∈ wA := wA_s16 _ (List.mem_of_getElem? (i := 4) rfl)
theorem wi_645 : (.instanceMethod yD_size : Cond) ∈ wA := wA_s16 _ (List.mem_of_getElem? (i := 5) rfl)
theorem wi_646 : (.selects "ShortenProgramsModel" yD_size yD_size : Cond) ∈ wA := wA_s16 _ (List.mem_of_getElem? (i := 6) rfl)
theorem wi_647 : (.code yD_size prog_7_method_25_code 1 (some .int) : Cond) ∈ wA := wA_s16 _ (List.mem_of_getElem? (i := 7) rfl)
theorem wi_648 : (.methodLink "ShortenProgramsLaw" 79 yD_at : Cond) ∈ wA := wA_s16 _ (List.mem_of_getElem? (i := 8) rfl)
theorem wi_649 : (.instanceMethod yD_at : Cond) ∈ wA := wA_s16 _ (List.mem_of_getElem? (i := 9) rfl)
theorem wi_650 : (.selects "ShortenProgramsModel" yD_at yD_at : Cond) ∈ wA := wA_s16 _ (List.mem_of_getElem? (i := 10) rfl)
theorem wi_651 : (.code yD_at prog_7_method_26_code 2 (some .int) : Cond) ∈ wA := wA_s16 _ (List.mem_of_getElem? (i := 11) rfl)
theorem wi_652 : (.methodLink "ShortenProgramsLaw" 82 yD_from : Cond) ∈ wA := wA_s16 _ (List.mem_of_getElem? (i := 12) rfl)
theorem wi_653 : (.instanceMethod yD_from : Cond) ∈ wA := wA_s16 _ (List.mem_of_getElem? (i := 13) rfl)
theorem wi_654 : (.selects "ShortenProgramsModel" yD_from yD_from : Cond) ∈ wA := wA_s16 _ (List.mem_of_getElem? (i := 14) rfl)
theorem wi_655 : (.code yD_from prog_7_method_27_code 2 (some .int) : Cond) ∈ wA := wA_s16 _ (List.mem_of_getElem? (i := 15) rfl)
theorem wi_656 : (.methodLink "ShortenProgramsLaw" 86 yD_known : Cond) ∈ wA := wA_s16 _ (List.mem_of_getElem? (i := 16) rfl)
theorem wi_657 : (.instanceMethod yD_known : Cond) ∈ wA := wA_s16 _ (List.mem_of_getElem? (i := 17) rfl)
theorem wi_658 : (.selects "ShortenProgramsModel" yD_known yD_known : Cond) ∈ wA := wA_s16 _ (List.mem_of_getElem? (i := 18) rfl)
theorem wi_659 : (.code yD_known prog_7_method_28_code 8 (some .int) : Cond) ∈ wA := wA_s16 _ (List.mem_of_getElem? (i := 19) rfl)
theorem wi_660 : (.methodLink "ShortenProgramsLaw" 90 yD_count : Cond) ∈ wA := wA_s16 _ (List.mem_of_getElem? (i := 20) rfl)
theorem wi_661 : (.instanceMethod yD_count : Cond) ∈ wA := wA_s16 _ (List.mem_of_getElem? (i := 21) rfl)
theorem wi_662 : (.selects "ShortenProgramsModel" yD_count yD_count : Cond) ∈ wA := wA_s16 _ (List.mem_of_getElem? (i := 22) rfl)
theorem wi_663 : (.code yD_count prog_7_method_29_code 2 (some .int) : Cond) ∈ wA := wA_s16 _ (List.mem_of_getElem? (i := 23) rfl)
theorem wi_664 : (.arrayClass .long : Cond) ∈ wA := wA_s16 _ (List.mem_of_getElem? (i := 24) rfl)
theorem wi_665 : (.sameMethod "java/lang/Throwable" "java/lang/Throwable" "fillInStackTrace" "(I)Ljava/lang/Throwable;" : Cond) ∈ wA := wA_s16 _ (List.mem_of_getElem? (i := 25) rfl)
theorem wi_666 : (.selects rS yS_startAfresh yS_startAfresh : Cond) ∈ wA := wA_s16 _ (List.mem_of_getElem? (i := 26) rfl)
theorem wi_667 : (.selects "java/lang/Throwable" ⟨"java/lang/Throwable", "fillInStackTrace", "(I)Ljava/lang/Throwable;"⟩ ⟨"java/lang/Throwable", "fillInStackTrace", "(I)Ljava/lang/Throwable;"⟩ : Cond) ∈ wA := wA_s16 _ (List.mem_of_getElem? (i := 27) rfl)
theorem wi_668 : (.selects rS yS_openAsk yS_openAsk : Cond) ∈ wA := wA_s16 _ (List.mem_of_getElem? (i := 28) rfl)
theorem wi_669 : (.selects rS yS_takeFirst yS_takeFirst : Cond) ∈ wA := wA_s16 _ (List.mem_of_getElem? (i := 29) rfl)
theorem wi_670 : (.selects rW yW_startGoingThrough yW_startGoingThrough : Cond) ∈ wA := wA_s16 _ (List.mem_of_getElem? (i := 30) rfl)
theorem wi_671 : (.selects rS yS_take yS_take : Cond) ∈ wA := wA_s16 _ (List.mem_of_getElem? (i := 31) rfl)
theorem wi_672 : (.selects rW yW_nextByte yW_nextByte : Cond) ∈ wA := wA_s16 _ (List.mem_of_getElem? (i := 32) rfl)
theorem wi_673 : (.selects rW yW_lowerValue yW_lowerValue : Cond) ∈ wA := wA_s16 _ (List.mem_of_getElem? (i := 33) rfl)
theorem wi_674 : (.selects rS yS_askNext yS_askNext : Cond) ∈ wA := wA_s16 _ (List.mem_of_getElem? (i := 34) rfl)
theorem wi_675 : (.selects rW yW_endGoingThrough yW_endGoingThrough : Cond) ∈ wA := wA_s16 _ (List.mem_of_getElem? (i := 35) rfl)
theorem wi_676 : (.selects rW yW_startLowering yW_startLowering : Cond) ∈ wA := wA_s16 _ (List.mem_of_getElem? (i := 36) rfl)
theorem wi_677 : (.selects rW yW_canLower yW_canLower : Cond) ∈ wA := wA_s16 _ (List.mem_of_getElem? (i := 37) rfl)
theorem wi_678 : (.selects rS yS_ask yS_ask : Cond) ∈ wA := wA_s16 _ (List.mem_of_getElem? (i := 38) rfl)
theorem wi_679 : (.selects rD yD_fail yD_fail : Cond) ∈ wA := wA_s16 _ (List.mem_of_getElem? (i := 39) rfl)
theorem wi_680 : (.selects rD yD_without yD_without : Cond) ∈ wA := wA_s17 _ (List.mem_of_getElem? (i := 0) rfl)
theorem wi_681 : (.selects rD yD_put yD_put : Cond) ∈ wA := wA_s17 _ (List.mem_of_getElem? (i := 1) rfl)
theorem wi_682 : (.selects rD yD_beginLeaving yD_beginLeaving : Cond) ∈ wA := wA_s17 _ (List.mem_of_getElem? (i := 2) rfl)
theorem wi_683 : (.selects rD yD_answered yD_answered : Cond) ∈ wA := wA_s17 _ (List.mem_of_getElem? (i := 3) rfl)
theorem wi_684 : (.selects rD yD_takeLeaving yD_takeLeaving : Cond) ∈ wA := wA_s17 _ (List.mem_of_getElem? (i := 4) rfl)
theorem wi_685 : (.selects rD yD_takeLowering yD_takeLowering : Cond) ∈ wA := wA_s17 _ (List.mem_of_getElem? (i := 5) rfl)
theorem wi_686 : (.selects rD yD_nextByte yD_nextByte : Cond) ∈ wA := wA_s17 _ (List.mem_of_getElem? (i := 6) rfl)
theorem wi_687 : (.selects rD yD_goOn yD_goOn : Cond) ∈ wA := wA_s17 _ (List.mem_of_getElem? (i := 7) rfl)
theorem wi_688 : (.selects rD yD_prepare yD_prepare : Cond) ∈ wA := wA_s17 _ (List.mem_of_getElem? (i := 8) rfl)
theorem wi_689 : (.selects rD yD_endPass yD_endPass : Cond) ∈ wA := wA_s17 _ (List.mem_of_getElem? (i := 9) rfl)
theorem wi_690 : (.selects rD yD_beginLowering yD_beginLowering : Cond) ∈ wA := wA_s17 _ (List.mem_of_getElem? (i := 10) rfl)
theorem wi_691 : (.selects rD yD_lowerTo yD_lowerTo : Cond) ∈ wA := wA_s17 _ (List.mem_of_getElem? (i := 11) rfl)
theorem wi_692 : (.selects rD yD_byteOf yD_byteOf : Cond) ∈ wA := wA_s17 _ (List.mem_of_getElem? (i := 12) rfl)
theorem wi_693 : (.selects rD yD_withByte yD_withByte : Cond) ∈ wA := wA_s17 _ (List.mem_of_getElem? (i := 13) rfl)
theorem wi_694 : (.selects rD yD_find yD_find : Cond) ∈ wA := wA_s17 _ (List.mem_of_getElem? (i := 14) rfl)
theorem wi_695 : (.selects rD yD_isAsked yD_isAsked : Cond) ∈ wA := wA_s17 _ (List.mem_of_getElem? (i := 15) rfl)
theorem wt_0 : (.initialized "ShortenProgramsLaw" : Cond) ∈ lw_tbl := (List.mem_append_right _ (List.mem_append_left _ (List.mem_of_getElem? (i := 0) rfl)))
theorem wt_1 : (.initialized "ShortenPrograms" : Cond) ∈ lw_tbl := (List.mem_append_right _ (List.mem_append_left _ (List.mem_of_getElem? (i := 1) rfl)))
theorem wt_2 : (.initialized "java/lang/Math" : Cond) ∈ lw_tbl := (List.mem_append_right _ (List.mem_append_left _ (List.mem_of_getElem? (i := 2) rfl)))
theorem wt_3 : (.initialized "ShortenPrograms$Program" : Cond) ∈ lw_tbl := (List.mem_append_right _ (List.mem_append_left _ (List.mem_of_getElem? (i := 3) rfl)))
theorem wt_4 : (.initialized "ShortenPrograms$Memory" : Cond) ∈ lw_tbl := (List.mem_append_right _ (List.mem_append_left _ (List.mem_of_getElem? (i := 4) rfl)))
theorem wt_5 : (.initialized "ShortenPrograms$Walk" : Cond) ∈ lw_tbl := (List.mem_append_right _ (List.mem_append_left _ (List.mem_of_getElem? (i := 5) rfl)))
theorem wt_6 : (.initialized "ShortenProgramsModel" : Cond) ∈ lw_tbl := (List.mem_append_right _ (List.mem_append_left _ (List.mem_of_getElem? (i := 6) rfl)))
theorem wt_7 : (.initialized "java/lang/Throwable" : Cond) ∈ lw_tbl := (List.mem_append_right _ (List.mem_append_left _ (List.mem_of_getElem? (i := 7) rfl)))
theorem wt_8 : (.initialized "java/lang/Exception" : Cond) ∈ lw_tbl := (List.mem_append_right _ (List.mem_append_left _ (List.mem_of_getElem? (i := 8) rfl)))
theorem wt_9 : (.initialized "java/lang/RuntimeException" : Cond) ∈ lw_tbl := (List.mem_append_right _ (List.mem_append_left _ (List.mem_of_getElem? (i := 9) rfl)))
theorem wt_10 : (.initialized "java/lang/UnsupportedOperationException" : Cond) ∈ lw_tbl := (List.mem_append_right _ (List.mem_append_left _ (List.mem_of_getElem? (i := 10) rfl)))
theorem wt_11 : (.initialized "java/lang/IllegalStateException" : Cond) ∈ lw_tbl := (List.mem_append_right _ (List.mem_append_left _ (List.mem_of_getElem? (i := 11) rfl)))
theorem wt_12 : (.initialized "ShortenPrograms$Ask" : Cond) ∈ lw_tbl := (List.mem_append_right _ (List.mem_append_left _ (List.mem_of_getElem? (i := 12) rfl)))
theorem wt_13 : (.initialized "java/lang/IndexOutOfBoundsException" : Cond) ∈ lw_tbl := (List.mem_append_right _ (List.mem_append_left _ (List.mem_of_getElem? (i := 13) rfl)))
theorem wt_14 : (.initialized "java/lang/IllegalArgumentException" : Cond) ∈ lw_tbl := (List.mem_append_right _ (List.mem_append_left _ (List.mem_of_getElem? (i := 14) rfl)))
theorem wt_15 : (.classLink "ShortenProgramsLaw" 8 "ShortenPrograms" : Cond) ∈ lw_tbl := (List.mem_append_right _ (List.mem_append_left _ (List.mem_of_getElem? (i := 15) rfl)))
theorem wt_16 : (.instantiable "ShortenPrograms" 11 : Cond) ∈ lw_tbl := (List.mem_append_right _ (List.mem_append_left _ (List.mem_of_getElem? (i := 16) rfl)))
theorem wt_17 : (.methodLink "ShortenProgramsLaw" 50 yS_init : Cond) ∈ lw_tbl := (List.mem_append_right _ (List.mem_append_left _ (List.mem_of_getElem? (i := 17) rfl)))
theorem wt_18 : (.instanceMethod yS_init : Cond) ∈ lw_tbl := (List.mem_append_right _ (List.mem_append_left _ (List.mem_of_getElem? (i := 18) rfl)))
theorem wt_19 : (.code yS_init prog_1_method_1_code 2 none : Cond) ∈ lw_tbl := (List.mem_append_right _ (List.mem_append_left _ (List.mem_of_getElem? (i := 19) rfl)))
theorem wt_20 : (.methodLink "ShortenPrograms" 1 ⟨"java/lang/Object", "<init>", "()V"⟩ : Cond) ∈ lw_tbl := (List.mem_append_right _ (List.mem_append_left _ (List.mem_of_getElem? (i := 20) rfl)))
theorem wt_21 : (.instanceMethod ⟨"java/lang/Object", "<init>", "()V"⟩ : Cond) ∈ lw_tbl := (List.mem_append_right _ (List.mem_append_left _ (List.mem_of_getElem? (i := 21) rfl)))
theorem wt_22 : (.code ⟨"java/lang/Object", "<init>", "()V"⟩ object_method_1_code 1 none : Cond) ∈ lw_tbl := (List.mem_append_right _ (List.mem_append_left _ (List.mem_of_getElem? (i := 22) rfl)))
theorem wt_23 : (.constantLong "ShortenPrograms" 9 (600) : Cond) ∈ lw_tbl := (List.mem_append_right _ (List.mem_append_left _ (List.mem_of_getElem? (i := 23) rfl)))
theorem wt_24 : (.methodLink "ShortenPrograms" 11 ⟨"java/lang/Math", "floorMod", "(JJ)J"⟩ : Cond) ∈ lw_tbl := (List.mem_append_right _ (List.mem_append_left _ (List.mem_of_getElem? (i := 24) rfl)))
theorem wt_25 : (.static ⟨"java/lang/Math", "floorMod", "(JJ)J"⟩ : Cond) ∈ lw_tbl := (List.mem_append_right _ (List.mem_append_left _ (List.mem_of_getElem? (i := 25) rfl)))
theorem wt_26 : (.code ⟨"java/lang/Math", "floorMod", "(JJ)J"⟩ prog_12_method_52_code 6 (some .long) : Cond) ∈ lw_tbl := (List.mem_append_right _ (List.mem_append_left _ (List.mem_of_getElem? (i := 26) rfl)))
theorem wt_27 : (.classLink "ShortenPrograms" 21 "ShortenPrograms$Program" : Cond) ∈ lw_tbl := (List.mem_append_right _ (List.mem_append_left _ (List.mem_of_getElem? (i := 27) rfl)))
theorem wt_28 : (.instantiable "ShortenPrograms$Program" 3 : Cond) ∈ lw_tbl := (List.mem_append_right _ (List.mem_append_left _ (List.mem_of_getElem? (i := 28) rfl)))
theorem wt_29 : (.instanceMethod yP_init : Cond) ∈ lw_tbl := (List.mem_append_right _ (List.mem_append_left _ (List.mem_of_getElem? (i := 30) rfl)))
theorem wt_30 : (.code yP_init prog_4_method_1_code 1 none : Cond) ∈ lw_tbl := (List.mem_append_right _ (List.mem_append_left _ (List.mem_of_getElem? (i := 31) rfl)))
theorem wt_31 : (.methodLink "ShortenPrograms$Program" 3 ⟨"java/lang/Object", "<init>", "()V"⟩ : Cond) ∈ lw_tbl := (List.mem_append_right _ (List.mem_append_left _ (List.mem_of_getElem? (i := 32) rfl)))
theorem wt_32 : (.fieldLink "ShortenPrograms$Program" 9 "ShortenPrograms$Program" "words" "[I" : Cond) ∈ lw_tbl := (List.mem_append_right _ (List.mem_append_left _ (List.mem_of_getElem? (i := 33) rfl)))
theorem wt_33 : (.fieldLink "ShortenPrograms$Program" 15 "ShortenPrograms$Program" "origins" "[I" : Cond) ∈ lw_tbl := (List.mem_append_right _ (List.mem_append_left _ (List.mem_of_getElem? (i := 34) rfl)))
theorem wt_34 : (.fieldLink "ShortenPrograms$Program" 18 "ShortenPrograms$Program" "length" "I" : Cond) ∈ lw_tbl := (List.mem_append_right _ (List.mem_append_left _ (List.mem_of_getElem? (i := 35) rfl)))
theorem wt_35 : (.laysFinal "ShortenPrograms$Program" "ShortenPrograms$Program" "words" "[I" : Cond) ∈ lw_tbl := (List.mem_append_right _ (List.mem_append_left _ (List.mem_of_getElem? (i := 36) rfl)))
theorem wt_36 : (.soleField "ShortenPrograms$Program" "words" : Cond) ∈ lw_tbl := (List.mem_append_right _ (List.mem_append_left _ (List.mem_of_getElem? (i := 37) rfl)))
theorem wt_37 : (.laysFinal "ShortenPrograms$Program" "ShortenPrograms$Program" "origins" "[I" : Cond) ∈ lw_tbl := (List.mem_append_right _ (List.mem_append_left _ (List.mem_of_getElem? (i := 38) rfl)))
theorem wt_38 : (.soleField "ShortenPrograms$Program" "origins" : Cond) ∈ lw_tbl := (List.mem_append_right _ (List.mem_append_left _ (List.mem_of_getElem? (i := 39) rfl)))
theorem wt_39 : (.lays "ShortenPrograms$Program" "ShortenPrograms$Program" "length" "I" : Cond) ∈ lw_tbl := (List.mem_append_right _ (List.mem_append_left _ (List.mem_of_getElem? (i := 40) rfl)))
theorem wt_40 : (.soleField "ShortenPrograms$Program" "length" : Cond) ∈ lw_tbl := (List.mem_append_right _ (List.mem_append_left _ (List.mem_of_getElem? (i := 41) rfl)))
theorem wt_41 : (.superclass "ShortenPrograms$Program" "java/lang/Object" : Cond) ∈ lw_tbl := (List.mem_append_right _ (List.mem_append_left _ (List.mem_of_getElem? (i := 42) rfl)))
theorem wt_42 : (.arrayClass .int : Cond) ∈ lw_tbl := (List.mem_append_right _ (List.mem_append_left _ (List.mem_of_getElem? (i := 43) rfl)))
theorem wt_43 : (.classLink "ShortenPrograms" 31 "ShortenPrograms$Memory" : Cond) ∈ lw_tbl := (List.mem_append_right _ (List.mem_append_left _ (List.mem_of_getElem? (i := 44) rfl)))
theorem wt_44 : (.instantiable "ShortenPrograms$Memory" 2 : Cond) ∈ lw_tbl := (List.mem_append_right _ (List.mem_append_left _ (List.mem_of_getElem? (i := 45) rfl)))
theorem wt_45 : (.instanceMethod yM_init : Cond) ∈ lw_tbl := (List.mem_append_right _ (List.mem_append_left _ (List.mem_of_getElem? (i := 47) rfl)))
theorem wt_46 : (.code yM_init prog_3_method_1_code 1 none : Cond) ∈ lw_tbl := (List.mem_append_right _ (List.mem_append_left _ (List.mem_of_getElem? (i := 48) rfl)))
theorem wt_47 : (.methodLink "ShortenPrograms$Memory" 3 ⟨"java/lang/Object", "<init>", "()V"⟩ : Cond) ∈ lw_tbl := (List.mem_append_right _ (List.mem_append_left _ (List.mem_of_getElem? (i := 49) rfl)))
theorem wt_48 : (.classLink "ShortenPrograms$Memory" 9 "ShortenPrograms$Ask" : Cond) ∈ lw_tbl := (List.mem_append_right _ (List.mem_append_left _ (List.mem_of_getElem? (i := 50) rfl)))
theorem wt_49 : (.fieldLink "ShortenPrograms$Memory" 11 "ShortenPrograms$Memory" "asks" "[LShortenPrograms$Ask;" : Cond) ∈ lw_tbl := (List.mem_append_right _ (List.mem_append_left _ (List.mem_of_getElem? (i := 52) rfl)))
theorem wt_50 : (.fieldLink "ShortenPrograms$Memory" 17 "ShortenPrograms$Memory" "filled" "I" : Cond) ∈ lw_tbl := (List.mem_append_right _ (List.mem_append_left _ (List.mem_of_getElem? (i := 53) rfl)))
theorem wt_51 : (.laysFinal "ShortenPrograms$Memory" "ShortenPrograms$Memory" "asks" "[LShortenPrograms$Ask;" : Cond) ∈ lw_tbl := (List.mem_append_right _ (List.mem_append_left _ (List.mem_of_getElem? (i := 54) rfl)))
theorem wt_52 : (.soleField "ShortenPrograms$Memory" "asks" : Cond) ∈ lw_tbl := (List.mem_append_right _ (List.mem_append_left _ (List.mem_of_getElem? (i := 55) rfl)))
theorem wt_53 : (.lays "ShortenPrograms$Memory" "ShortenPrograms$Memory" "filled" "I" : Cond) ∈ lw_tbl := (List.mem_append_right _ (List.mem_append_left _ (List.mem_of_getElem? (i := 56) rfl)))
theorem wt_54 : (.soleField "ShortenPrograms$Memory" "filled" : Cond) ∈ lw_tbl := (List.mem_append_right _ (List.mem_append_left _ (List.mem_of_getElem? (i := 57) rfl)))
theorem wt_55 : (.superclass "ShortenPrograms$Memory" "java/lang/Object" : Cond) ∈ lw_tbl := (List.mem_append_right _ (List.mem_append_left _ (List.mem_of_getElem? (i := 58) rfl)))
theorem wt_56 : (.classLink "ShortenPrograms" 38 "ShortenPrograms$Walk" : Cond) ∈ lw_tbl := (List.mem_append_right _ (List.mem_append_left _ (List.mem_of_getElem? (i := 59) rfl)))
theorem wt_57 : (.instantiable "ShortenPrograms$Walk" 8 : Cond) ∈ lw_tbl := (List.mem_append_right _ (List.mem_append_left _ (List.mem_of_getElem? (i := 60) rfl)))
theorem wt_58 : (.instanceMethod yW_init : Cond) ∈ lw_tbl := (List.mem_append_right _ (List.mem_append_left _ (List.mem_of_getElem? (i := 62) rfl)))
theorem wt_59 : (.code yW_init prog_5_method_1_code 1 none : Cond) ∈ lw_tbl := (List.mem_append_right _ (List.mem_append_left _ (List.mem_of_getElem? (i := 63) rfl)))
theorem wt_60 : (.methodLink "ShortenPrograms$Walk" 3 ⟨"java/lang/Object", "<init>", "()V"⟩ : Cond) ∈ lw_tbl := (List.mem_append_right _ (List.mem_append_left _ (List.mem_of_getElem? (i := 64) rfl)))
theorem wt_61 : (.fieldLink "ShortenPrograms$Walk" 15 "ShortenPrograms$Walk" "step" "I" : Cond) ∈ lw_tbl := (List.mem_append_right _ (List.mem_append_left _ (List.mem_of_getElem? (i := 65) rfl)))
theorem wt_62 : (.fieldLink "ShortenPrograms$Walk" 22 "ShortenPrograms$Walk" "piece" "I" : Cond) ∈ lw_tbl := (List.mem_append_right _ (List.mem_append_left _ (List.mem_of_getElem? (i := 66) rfl)))
theorem wt_63 : (.fieldLink "ShortenPrograms$Walk" 25 "ShortenPrograms$Walk" "place" "I" : Cond) ∈ lw_tbl := (List.mem_append_right _ (List.mem_append_left _ (List.mem_of_getElem? (i := 67) rfl)))
theorem wt_64 : (.fieldLink "ShortenPrograms$Walk" 28 "ShortenPrograms$Walk" "someLeftOut" "Z" : Cond) ∈ lw_tbl := (List.mem_append_right _ (List.mem_append_left _ (List.mem_of_getElem? (i := 68) rfl)))
theorem wt_65 : (.fieldLink "ShortenPrograms$Walk" 32 "ShortenPrograms$Walk" "wordPlace" "I" : Cond) ∈ lw_tbl := (List.mem_append_right _ (List.mem_append_left _ (List.mem_of_getElem? (i := 69) rfl)))
theorem wt_66 : (.fieldLink "ShortenPrograms$Walk" 35 "ShortenPrograms$Walk" "bytePlace" "I" : Cond) ∈ lw_tbl := (List.mem_append_right _ (List.mem_append_left _ (List.mem_of_getElem? (i := 70) rfl)))
theorem wt_67 : (.fieldLink "ShortenPrograms$Walk" 38 "ShortenPrograms$Walk" "someLowered" "Z" : Cond) ∈ lw_tbl := (List.mem_append_right _ (List.mem_append_left _ (List.mem_of_getElem? (i := 71) rfl)))
theorem wt_68 : (.fieldLink "ShortenPrograms$Walk" 9 "ShortenPrograms$Walk" "timesLeaving" "I" : Cond) ∈ lw_tbl := (List.mem_append_right _ (List.mem_append_left _ (List.mem_of_getElem? (i := 72) rfl)))
theorem wt_69 : (.lays "ShortenPrograms$Walk" "ShortenPrograms$Walk" "step" "I" : Cond) ∈ lw_tbl := (List.mem_append_right _ (List.mem_append_left _ (List.mem_of_getElem? (i := 73) rfl)))
theorem wt_70 : (.soleField "ShortenPrograms$Walk" "step" : Cond) ∈ lw_tbl := (List.mem_append_right _ (List.mem_append_left _ (List.mem_of_getElem? (i := 74) rfl)))
theorem wt_71 : (.lays "ShortenPrograms$Walk" "ShortenPrograms$Walk" "piece" "I" : Cond) ∈ lw_tbl := (List.mem_append_right _ (List.mem_append_left _ (List.mem_of_getElem? (i := 75) rfl)))
theorem wt_72 : (.soleField "ShortenPrograms$Walk" "piece" : Cond) ∈ lw_tbl := (List.mem_append_right _ (List.mem_append_left _ (List.mem_of_getElem? (i := 76) rfl)))
theorem wt_73 : (.lays "ShortenPrograms$Walk" "ShortenPrograms$Walk" "place" "I" : Cond) ∈ lw_tbl := (List.mem_append_right _ (List.mem_append_left _ (List.mem_of_getElem? (i := 77) rfl)))
theorem wt_74 : (.soleField "ShortenPrograms$Walk" "place" : Cond) ∈ lw_tbl := (List.mem_append_right _ (List.mem_append_left _ (List.mem_of_getElem? (i := 78) rfl)))
theorem wt_75 : (.lays "ShortenPrograms$Walk" "ShortenPrograms$Walk" "someLeftOut" "Z" : Cond) ∈ lw_tbl := (List.mem_append_right _ (List.mem_append_left _ (List.mem_of_getElem? (i := 79) rfl)))
theorem wt_76 : (.soleField "ShortenPrograms$Walk" "someLeftOut" : Cond) ∈ lw_tbl := (List.mem_append_right _ (List.mem_append_left _ (List.mem_of_getElem? (i := 80) rfl)))
theorem wt_77 : (.lays "ShortenPrograms$Walk" "ShortenPrograms$Walk" "wordPlace" "I" : Cond) ∈ lw_tbl := (List.mem_append_right _ (List.mem_append_left _ (List.mem_of_getElem? (i := 81) rfl)))
theorem wt_78 : (.soleField "ShortenPrograms$Walk" "wordPlace" : Cond) ∈ lw_tbl := (List.mem_append_right _ (List.mem_append_left _ (List.mem_of_getElem? (i := 82) rfl)))
theorem wt_79 : (.lays "ShortenPrograms$Walk" "ShortenPrograms$Walk" "bytePlace" "I" : Cond) ∈ lw_tbl := (List.mem_append_right _ (List.mem_append_left _ (List.mem_of_getElem? (i := 83) rfl)))
theorem wt_80 : (.soleField "ShortenPrograms$Walk" "bytePlace" : Cond) ∈ lw_tbl := (List.mem_append_right _ (List.mem_append_left _ (List.mem_of_getElem? (i := 84) rfl)))
theorem wt_81 : (.lays "ShortenPrograms$Walk" "ShortenPrograms$Walk" "someLowered" "Z" : Cond) ∈ lw_tbl := (List.mem_append_right _ (List.mem_append_left _ (List.mem_of_getElem? (i := 85) rfl)))
theorem wt_82 : (.soleField "ShortenPrograms$Walk" "someLowered" : Cond) ∈ lw_tbl := (List.mem_append_right _ (List.mem_append_left _ (List.mem_of_getElem? (i := 86) rfl)))
theorem wt_83 : (.lays "ShortenPrograms$Walk" "ShortenPrograms$Walk" "timesLeaving" "I" : Cond) ∈ lw_tbl := (List.mem_append_right _ (List.mem_append_left _ (List.mem_of_getElem? (i := 87) rfl)))
theorem wt_84 : (.soleField "ShortenPrograms$Walk" "timesLeaving" : Cond) ∈ lw_tbl := (List.mem_append_right _ (List.mem_append_left _ (List.mem_of_getElem? (i := 88) rfl)))
theorem wt_85 : (.superclass "ShortenPrograms$Walk" "java/lang/Object" : Cond) ∈ lw_tbl := (List.mem_append_right _ (List.mem_append_left _ (List.mem_of_getElem? (i := 89) rfl)))
theorem wt_86 : (.fieldLink "ShortenPrograms" 17 "ShortenPrograms" "budget" "I" : Cond) ∈ lw_tbl := (List.mem_append_right _ (List.mem_append_left _ (List.mem_of_getElem? (i := 90) rfl)))
theorem wt_87 : (.fieldLink "ShortenPrograms" 24 "ShortenPrograms" "current" "LShortenPrograms$Program;" : Cond) ∈ lw_tbl := (List.mem_append_right _ (List.mem_append_left _ (List.mem_of_getElem? (i := 91) rfl)))
theorem wt_88 : (.fieldLink "ShortenPrograms" 28 "ShortenPrograms" "candidate" "LShortenPrograms$Program;" : Cond) ∈ lw_tbl := (List.mem_append_right _ (List.mem_append_left _ (List.mem_of_getElem? (i := 92) rfl)))
theorem wt_89 : (.fieldLink "ShortenPrograms" 34 "ShortenPrograms" "memory" "LShortenPrograms$Memory;" : Cond) ∈ lw_tbl := (List.mem_append_right _ (List.mem_append_left _ (List.mem_of_getElem? (i := 93) rfl)))
theorem wt_90 : (.fieldLink "ShortenPrograms" 41 "ShortenPrograms" "walk" "LShortenPrograms$Walk;" : Cond) ∈ lw_tbl := (List.mem_append_right _ (List.mem_append_left _ (List.mem_of_getElem? (i := 94) rfl)))
theorem wt_91 : (.fieldLink "ShortenPrograms" 45 "ShortenPrograms" "state" "I" : Cond) ∈ lw_tbl := (List.mem_append_right _ (List.mem_append_left _ (List.mem_of_getElem? (i := 95) rfl)))
theorem wt_92 : (.fieldLink "ShortenPrograms" 48 "ShortenPrograms" "theDifference" "I" : Cond) ∈ lw_tbl := (List.mem_append_right _ (List.mem_append_left _ (List.mem_of_getElem? (i := 96) rfl)))
theorem wt_93 : (.fieldLink "ShortenPrograms" 156 "ShortenPrograms" "remembered" "I" : Cond) ∈ lw_tbl := (List.mem_append_right _ (List.mem_append_left _ (List.mem_of_getElem? (i := 97) rfl)))
theorem wt_94 : (.fieldLink "ShortenPrograms" 159 "ShortenPrograms" "good" "I" : Cond) ∈ lw_tbl := (List.mem_append_right _ (List.mem_append_left _ (List.mem_of_getElem? (i := 98) rfl)))
theorem wt_95 : (.fieldLink "ShortenPrograms" 162 "ShortenPrograms" "leftOut" "I" : Cond) ∈ lw_tbl := (List.mem_append_right _ (List.mem_append_left _ (List.mem_of_getElem? (i := 99) rfl)))
theorem wt_96 : (.fieldLink "ShortenPrograms" 165 "ShortenPrograms" "lowered" "I" : Cond) ∈ lw_tbl := (List.mem_append_right _ (List.mem_append_left _ (List.mem_of_getElem? (i := 100) rfl)))
theorem wt_97 : (.laysFinal "ShortenPrograms" "ShortenPrograms" "budget" "I" : Cond) ∈ lw_tbl := (List.mem_append_right _ (List.mem_append_left _ (List.mem_of_getElem? (i := 101) rfl)))
theorem wt_98 : (.soleField "ShortenPrograms" "budget" : Cond) ∈ lw_tbl := (List.mem_append_right _ (List.mem_append_left _ (List.mem_of_getElem? (i := 102) rfl)))
theorem wt_99 : (.laysFinal "ShortenPrograms" "ShortenPrograms" "current" "LShortenPrograms$Program;" : Cond) ∈ lw_tbl := (List.mem_append_right _ (List.mem_append_left _ (List.mem_of_getElem? (i := 103) rfl)))
theorem wt_100 : (.soleField "ShortenPrograms" "current" : Cond) ∈ lw_tbl := (List.mem_append_right _ (List.mem_append_left _ (List.mem_of_getElem? (i := 104) rfl)))
theorem wt_101 : (.laysFinal "ShortenPrograms" "ShortenPrograms" "candidate" "LShortenPrograms$Program;" : Cond) ∈ lw_tbl := (List.mem_append_right _ (List.mem_append_left _ (List.mem_of_getElem? (i := 105) rfl)))
theorem wt_102 : (.soleField "ShortenPrograms" "candidate" : Cond) ∈ lw_tbl := (List.mem_append_right _ (List.mem_append_left _ (List.mem_of_getElem? (i := 106) rfl)))
theorem wt_103 : (.laysFinal "ShortenPrograms" "ShortenPrograms" "memory" "LShortenPrograms$Memory;" : Cond) ∈ lw_tbl := (List.mem_append_right _ (List.mem_append_left _ (List.mem_of_getElem? (i := 107) rfl)))
theorem wt_104 : (.soleField "ShortenPrograms" "memory" : Cond) ∈ lw_tbl := (List.mem_append_right _ (List.mem_append_left _ (List.mem_of_getElem? (i := 108) rfl)))
theorem wt_105 : (.laysFinal "ShortenPrograms" "ShortenPrograms" "walk" "LShortenPrograms$Walk;" : Cond) ∈ lw_tbl := (List.mem_append_right _ (List.mem_append_left _ (List.mem_of_getElem? (i := 109) rfl)))
theorem wt_106 : (.soleField "ShortenPrograms" "walk" : Cond) ∈ lw_tbl := (List.mem_append_right _ (List.mem_append_left _ (List.mem_of_getElem? (i := 110) rfl)))
theorem wt_107 : (.lays "ShortenPrograms" "ShortenPrograms" "state" "I" : Cond) ∈ lw_tbl := (List.mem_append_right _ (List.mem_append_left _ (List.mem_of_getElem? (i := 111) rfl)))
theorem wt_108 : (.soleField "ShortenPrograms" "state" : Cond) ∈ lw_tbl := (List.mem_append_right _ (List.mem_append_left _ (List.mem_of_getElem? (i := 112) rfl)))
theorem wt_109 : (.lays "ShortenPrograms" "ShortenPrograms" "theDifference" "I" : Cond) ∈ lw_tbl := (List.mem_append_right _ (List.mem_append_left _ (List.mem_of_getElem? (i := 113) rfl)))
theorem wt_110 : (.soleField "ShortenPrograms" "theDifference" : Cond) ∈ lw_tbl := (List.mem_append_right _ (List.mem_append_left _ (List.mem_of_getElem? (i := 114) rfl)))
theorem wt_111 : (.lays "ShortenPrograms" "ShortenPrograms" "remembered" "I" : Cond) ∈ lw_tbl := (List.mem_append_right _ (List.mem_append_left _ (List.mem_of_getElem? (i := 115) rfl)))
theorem wt_112 : (.soleField "ShortenPrograms" "remembered" : Cond) ∈ lw_tbl := (List.mem_append_right _ (List.mem_append_left _ (List.mem_of_getElem? (i := 116) rfl)))
theorem wt_113 : (.lays "ShortenPrograms" "ShortenPrograms" "good" "I" : Cond) ∈ lw_tbl := (List.mem_append_right _ (List.mem_append_left _ (List.mem_of_getElem? (i := 117) rfl)))
theorem wt_114 : (.soleField "ShortenPrograms" "good" : Cond) ∈ lw_tbl := (List.mem_append_right _ (List.mem_append_left _ (List.mem_of_getElem? (i := 118) rfl)))
theorem wt_115 : (.lays "ShortenPrograms" "ShortenPrograms" "leftOut" "I" : Cond) ∈ lw_tbl := (List.mem_append_right _ (List.mem_append_left _ (List.mem_of_getElem? (i := 119) rfl)))
theorem wt_116 : (.soleField "ShortenPrograms" "leftOut" : Cond) ∈ lw_tbl := (List.mem_append_right _ (List.mem_append_left _ (List.mem_of_getElem? (i := 120) rfl)))
theorem wt_117 : (.lays "ShortenPrograms" "ShortenPrograms" "lowered" "I" : Cond) ∈ lw_tbl := (List.mem_append_right _ (List.mem_append_left _ (List.mem_of_getElem? (i := 121) rfl)))
theorem wt_118 : (.soleField "ShortenPrograms" "lowered" : Cond) ∈ lw_tbl := (List.mem_append_right _ (List.mem_append_left _ (List.mem_of_getElem? (i := 122) rfl)))
theorem wt_119 : (.superclass "ShortenPrograms" "java/lang/Object" : Cond) ∈ lw_tbl := (List.mem_append_right _ (List.mem_append_left _ (List.mem_of_getElem? (i := 123) rfl)))
theorem wt_120 : (.methodLink "ShortenProgramsLaw" 87 yS_count : Cond) ∈ lw_tbl := (List.mem_append_right _ (List.mem_append_left _ (List.mem_of_getElem? (i := 124) rfl)))
theorem wt_121 : (.instanceMethod yS_count : Cond) ∈ lw_tbl := (List.mem_append_right _ (List.mem_append_left _ (List.mem_of_getElem? (i := 125) rfl)))
theorem wt_122 : (.selects "ShortenPrograms" yS_count yS_count : Cond) ∈ lw_tbl := (List.mem_append_right _ (List.mem_append_left _ (List.mem_of_getElem? (i := 126) rfl)))
theorem wt_123 : (.code yS_count prog_1_method_10_code 2 (some .int) : Cond) ∈ lw_tbl := (List.mem_append_right _ (List.mem_append_left _ (List.mem_of_getElem? (i := 127) rfl)))
theorem wt_124 : (.methodLink "ShortenPrograms" 69 yP_length : Cond) ∈ lw_tbl := (List.mem_append_right _ (List.mem_append_left _ (List.mem_of_getElem? (i := 128) rfl)))
theorem wt_125 : (.instanceMethod yP_length : Cond) ∈ lw_tbl := (List.mem_append_right _ (List.mem_append_left _ (List.mem_of_getElem? (i := 129) rfl)))
theorem wt_126 : (.selects "ShortenPrograms$Program" yP_length yP_length : Cond) ∈ lw_tbl := (List.mem_append_right _ (List.mem_append_left _ (List.mem_of_getElem? (i := 130) rfl)))
theorem wt_127 : (.code yP_length prog_4_method_2_code 1 (some .int) : Cond) ∈ lw_tbl := (List.mem_append_right _ (List.mem_append_left _ (List.mem_of_getElem? (i := 131) rfl)))
theorem wt_128 : (.methodLink "ShortenPrograms" 153 yM_filled : Cond) ∈ lw_tbl := (List.mem_append_right _ (List.mem_append_left _ (List.mem_of_getElem? (i := 132) rfl)))
theorem wt_129 : (.instanceMethod yM_filled : Cond) ∈ lw_tbl := (List.mem_append_right _ (List.mem_append_left _ (List.mem_of_getElem? (i := 133) rfl)))
theorem wt_130 : (.selects "ShortenPrograms$Memory" yM_filled yM_filled : Cond) ∈ lw_tbl := (List.mem_append_right _ (List.mem_append_left _ (List.mem_of_getElem? (i := 134) rfl)))
theorem wt_131 : (.code yM_filled prog_3_method_2_code 1 (some .int) : Cond) ∈ lw_tbl := (List.mem_append_right _ (List.mem_append_left _ (List.mem_of_getElem? (i := 135) rfl)))
theorem wt_132 : (.methodLink "ShortenPrograms" 168 yW_timesLeaving : Cond) ∈ lw_tbl := (List.mem_append_right _ (List.mem_append_left _ (List.mem_of_getElem? (i := 136) rfl)))
theorem wt_133 : (.instanceMethod yW_timesLeaving : Cond) ∈ lw_tbl := (List.mem_append_right _ (List.mem_append_left _ (List.mem_of_getElem? (i := 137) rfl)))
theorem wt_134 : (.selects "ShortenPrograms$Walk" yW_timesLeaving yW_timesLeaving : Cond) ∈ lw_tbl := (List.mem_append_right _ (List.mem_append_left _ (List.mem_of_getElem? (i := 138) rfl)))
theorem wt_135 : (.code yW_timesLeaving prog_5_method_2_code 1 (some .int) : Cond) ∈ lw_tbl := (List.mem_append_right _ (List.mem_append_left _ (List.mem_of_getElem? (i := 139) rfl)))
theorem wt_136 : (.methodLink "ShortenProgramsLaw" 44 yL_cell : Cond) ∈ lw_tbl := (List.mem_append_right _ (List.mem_append_left _ (List.mem_of_getElem? (i := 140) rfl)))
theorem wt_137 : (.static yL_cell : Cond) ∈ lw_tbl := (List.mem_append_right _ (List.mem_append_left _ (List.mem_of_getElem? (i := 141) rfl)))
theorem wt_138 : (.code yL_cell method_2_code 2 (some .int) : Cond) ∈ lw_tbl := (List.mem_append_right _ (List.mem_append_left _ (List.mem_of_getElem? (i := 142) rfl)))
theorem wt_139 : (.methodLink "ShortenProgramsLaw" 56 yL_feed : Cond) ∈ lw_tbl := (List.mem_append_right _ (List.mem_append_left _ (List.mem_of_getElem? (i := 143) rfl)))
theorem wt_140 : (.static yL_feed : Cond) ∈ lw_tbl := (List.mem_append_right _ (List.mem_append_left _ (List.mem_of_getElem? (i := 144) rfl)))
theorem wt_141 : (.codeWith yL_feed method_3_code 4 (some .int) [(0, 9, 12, 13)] : Cond) ∈ lw_tbl := (List.mem_append_right _ (List.mem_append_left _ (List.mem_of_getElem? (i := 145) rfl)))
theorem wt_142 : (.classLink "ShortenProgramsLaw" 13 "java/lang/UnsupportedOperationException" : Cond) ∈ lw_tbl := (List.mem_append_right _ (List.mem_append_left _ (List.mem_of_getElem? (i := 146) rfl)))
theorem wt_143 : (.methodLink "ShortenProgramsLaw" 7 yS_feed : Cond) ∈ lw_tbl := (List.mem_append_right _ (List.mem_append_left _ (List.mem_of_getElem? (i := 147) rfl)))
theorem wt_144 : (.instanceMethod yS_feed : Cond) ∈ lw_tbl := (List.mem_append_right _ (List.mem_append_left _ (List.mem_of_getElem? (i := 148) rfl)))
theorem wt_145 : (.selects "ShortenPrograms" yS_feed yS_feed : Cond) ∈ lw_tbl := (List.mem_append_right _ (List.mem_append_left _ (List.mem_of_getElem? (i := 149) rfl)))
theorem wt_146 : (.code yS_feed prog_1_method_2_code 2 (some .int) : Cond) ∈ lw_tbl := (List.mem_append_right _ (List.mem_append_left _ (List.mem_of_getElem? (i := 150) rfl)))
theorem wt_147 : (.methodLink "ShortenPrograms" 51 yS_startAfresh : Cond) ∈ lw_tbl := (List.mem_append_right _ (List.mem_append_left _ (List.mem_of_getElem? (i := 151) rfl)))
theorem wt_148 : (.instanceMethod yS_startAfresh : Cond) ∈ lw_tbl := (List.mem_append_right _ (List.mem_append_left _ (List.mem_of_getElem? (i := 153) rfl)))
theorem wt_149 : (.code yS_startAfresh prog_1_method_11_code 1 none : Cond) ∈ lw_tbl := (List.mem_append_right _ (List.mem_append_left _ (List.mem_of_getElem? (i := 154) rfl)))
theorem wt_150 : (.methodLink "ShortenPrograms" 171 yP_clear : Cond) ∈ lw_tbl := (List.mem_append_right _ (List.mem_append_left _ (List.mem_of_getElem? (i := 155) rfl)))
theorem wt_151 : (.instanceMethod yP_clear : Cond) ∈ lw_tbl := (List.mem_append_right _ (List.mem_append_left _ (List.mem_of_getElem? (i := 156) rfl)))
theorem wt_152 : (.selects "ShortenPrograms$Program" yP_clear yP_clear : Cond) ∈ lw_tbl := (List.mem_append_right _ (List.mem_append_left _ (List.mem_of_getElem? (i := 157) rfl)))
theorem wt_153 : (.code yP_clear prog_4_method_7_code 1 none : Cond) ∈ lw_tbl := (List.mem_append_right _ (List.mem_append_left _ (List.mem_of_getElem? (i := 158) rfl)))
theorem wt_154 : (.methodLink "ShortenPrograms" 174 yM_clear : Cond) ∈ lw_tbl := (List.mem_append_right _ (List.mem_append_left _ (List.mem_of_getElem? (i := 159) rfl)))
theorem wt_155 : (.instanceMethod yM_clear : Cond) ∈ lw_tbl := (List.mem_append_right _ (List.mem_append_left _ (List.mem_of_getElem? (i := 160) rfl)))
theorem wt_156 : (.selects "ShortenPrograms$Memory" yM_clear yM_clear : Cond) ∈ lw_tbl := (List.mem_append_right _ (List.mem_append_left _ (List.mem_of_getElem? (i := 161) rfl)))
theorem wt_157 : (.code yM_clear prog_3_method_3_code 1 none : Cond) ∈ lw_tbl := (List.mem_append_right _ (List.mem_append_left _ (List.mem_of_getElem? (i := 162) rfl)))
theorem wt_158 : (.methodLink "ShortenPrograms" 175 yW_clear : Cond) ∈ lw_tbl := (List.mem_append_right _ (List.mem_append_left _ (List.mem_of_getElem? (i := 163) rfl)))
theorem wt_159 : (.instanceMethod yW_clear : Cond) ∈ lw_tbl := (List.mem_append_right _ (List.mem_append_left _ (List.mem_of_getElem? (i := 164) rfl)))
theorem wt_160 : (.selects "ShortenPrograms$Walk" yW_clear yW_clear : Cond) ∈ lw_tbl := (List.mem_append_right _ (List.mem_append_left _ (List.mem_of_getElem? (i := 165) rfl)))
theorem wt_161 : (.code yW_clear prog_5_method_4_code 1 none : Cond) ∈ lw_tbl := (List.mem_append_right _ (List.mem_append_left _ (List.mem_of_getElem? (i := 166) rfl)))
theorem wt_162 : (.methodLink "ShortenPrograms" 54 yP_isFull : Cond) ∈ lw_tbl := (List.mem_append_right _ (List.mem_append_left _ (List.mem_of_getElem? (i := 167) rfl)))
theorem wt_163 : (.instanceMethod yP_isFull : Cond) ∈ lw_tbl := (List.mem_append_right _ (List.mem_append_left _ (List.mem_of_getElem? (i := 168) rfl)))
theorem wt_164 : (.selects "ShortenPrograms$Program" yP_isFull yP_isFull : Cond) ∈ lw_tbl := (List.mem_append_right _ (List.mem_append_left _ (List.mem_of_getElem? (i := 169) rfl)))
theorem wt_165 : (.code yP_isFull prog_4_method_3_code 1 (some .boolean) : Cond) ∈ lw_tbl := (List.mem_append_right _ (List.mem_append_left _ (List.mem_of_getElem? (i := 170) rfl)))
theorem wt_166 : (.classLink "ShortenPrograms" 58 "java/lang/UnsupportedOperationException" : Cond) ∈ lw_tbl := (List.mem_append_right _ (List.mem_append_left _ (List.mem_of_getElem? (i := 171) rfl)))
theorem wt_167 : (.instantiable "java/lang/UnsupportedOperationException" 6 : Cond) ∈ lw_tbl := (List.mem_append_right _ (List.mem_append_left _ (List.mem_of_getElem? (i := 172) rfl)))
theorem wt_168 : (.selects "java/lang/UnsupportedOperationException" ⟨"java/lang/Throwable", "fillInStackTrace", "(I)Ljava/lang/Throwable;"⟩ ⟨"java/lang/Throwable", "fillInStackTrace", "(I)Ljava/lang/Throwable;"⟩ : Cond) ∈ lw_tbl := (List.mem_append_right _ (List.mem_append_left _ (List.mem_of_getElem? (i := 180) rfl)))
theorem wt_169 : (.selects "java/lang/UnsupportedOperationException" ⟨"java/lang/Throwable", "fillInStackTrace", "()Ljava/lang/Throwable;"⟩ ⟨"java/lang/Throwable", "fillInStackTrace", "()Ljava/lang/Throwable;"⟩ : Cond) ∈ lw_tbl := (List.mem_append_right _ (List.mem_append_left _ (List.mem_of_getElem? (i := 181) rfl)))
theorem wt_170 : (.lays "java/lang/UnsupportedOperationException" "java/lang/Throwable" "cause" "Ljava/lang/Throwable;" : Cond) ∈ lw_tbl := (List.mem_append_right _ (List.mem_append_left _ (List.mem_of_getElem? (i := 182) rfl)))
theorem wt_171 : (.lays "java/lang/Throwable" "java/lang/Throwable" "cause" "Ljava/lang/Throwable;" : Cond) ∈ lw_tbl := (List.mem_append_right _ (List.mem_append_left _ (List.mem_of_getElem? (i := 183) rfl)))
theorem wt_172 : (.lays "java/lang/UnsupportedOperationException" "java/lang/Throwable" "stackTrace" "[Ljava/lang/StackTraceElement;" : Cond) ∈ lw_tbl := (List.mem_append_right _ (List.mem_append_left _ (List.mem_of_getElem? (i := 184) rfl)))
theorem wt_173 : (.lays "java/lang/Throwable" "java/lang/Throwable" "stackTrace" "[Ljava/lang/StackTraceElement;" : Cond) ∈ lw_tbl := (List.mem_append_right _ (List.mem_append_left _ (List.mem_of_getElem? (i := 185) rfl)))
theorem wt_174 : (.lays "java/lang/UnsupportedOperationException" "java/lang/Throwable" "suppressedExceptions" "Ljava/util/List;" : Cond) ∈ lw_tbl := (List.mem_append_right _ (List.mem_append_left _ (List.mem_of_getElem? (i := 186) rfl)))
theorem wt_175 : (.lays "java/lang/Throwable" "java/lang/Throwable" "suppressedExceptions" "Ljava/util/List;" : Cond) ∈ lw_tbl := (List.mem_append_right _ (List.mem_append_left _ (List.mem_of_getElem? (i := 187) rfl)))
theorem wt_176 : (.lays "java/lang/UnsupportedOperationException" "java/lang/Throwable" "detailMessage" "Ljava/lang/String;" : Cond) ∈ lw_tbl := (List.mem_append_right _ (List.mem_append_left _ (List.mem_of_getElem? (i := 188) rfl)))
theorem wt_177 : (.lays "java/lang/Throwable" "java/lang/Throwable" "detailMessage" "Ljava/lang/String;" : Cond) ∈ lw_tbl := (List.mem_append_right _ (List.mem_append_left _ (List.mem_of_getElem? (i := 189) rfl)))
theorem wt_178 : (.lays "java/lang/UnsupportedOperationException" "java/lang/Throwable" "backtrace" "Ljava/lang/Object;" : Cond) ∈ lw_tbl := (List.mem_append_right _ (List.mem_append_left _ (List.mem_of_getElem? (i := 190) rfl)))
theorem wt_179 : (.lays "java/lang/Throwable" "java/lang/Throwable" "backtrace" "Ljava/lang/Object;" : Cond) ∈ lw_tbl := (List.mem_append_right _ (List.mem_append_left _ (List.mem_of_getElem? (i := 191) rfl)))
theorem wt_180 : (.fieldLink "java/lang/Throwable" 198 "java/lang/Throwable" "backtrace" "Ljava/lang/Object;" : Cond) ∈ lw_tbl := (List.mem_append_right _ (List.mem_append_left _ (List.mem_of_getElem? (i := 192) rfl)))
theorem wt_181 : (.superclass "java/lang/Throwable" "java/lang/Object" : Cond) ∈ lw_tbl := (List.mem_append_right _ (List.mem_append_left _ (List.mem_of_getElem? (i := 193) rfl)))
theorem wt_182 : (.instanceMethod ⟨"java/lang/Throwable", "<init>", "()V"⟩ : Cond) ∈ lw_tbl := (List.mem_append_right _ (List.mem_append_left _ (List.mem_of_getElem? (i := 194) rfl)))
theorem wt_183 : (.code ⟨"java/lang/Throwable", "<init>", "()V"⟩ prog_15_method_1_code 1 none : Cond) ∈ lw_tbl := (List.mem_append_right _ (List.mem_append_left _ (List.mem_of_getElem? (i := 195) rfl)))
theorem wt_184 : (.methodLink "java/lang/Throwable" 1 ⟨"java/lang/Object", "<init>", "()V"⟩ : Cond) ∈ lw_tbl := (List.mem_append_right _ (List.mem_append_left _ (List.mem_of_getElem? (i := 196) rfl)))
theorem wt_185 : (.fieldLink "java/lang/Throwable" 13 "java/lang/Throwable" "UNASSIGNED_STACK" "[Ljava/lang/StackTraceElement;" : Cond) ∈ lw_tbl := (List.mem_append_right _ (List.mem_append_left _ (List.mem_of_getElem? (i := 197) rfl)))
theorem wt_186 : (.fieldLink "java/lang/Throwable" 20 "java/lang/Throwable" "SUPPRESSED_SENTINEL" "Ljava/util/List;" : Cond) ∈ lw_tbl := (List.mem_append_right _ (List.mem_append_left _ (List.mem_of_getElem? (i := 199) rfl)))
theorem wt_187 : (.methodLink "java/lang/Throwable" 27 ⟨"java/lang/Throwable", "fillInStackTrace", "()Ljava/lang/Throwable;"⟩ : Cond) ∈ lw_tbl := (List.mem_append_right _ (List.mem_append_left _ (List.mem_of_getElem? (i := 201) rfl)))
theorem wt_188 : (.instanceMethod ⟨"java/lang/Throwable", "fillInStackTrace", "()Ljava/lang/Throwable;"⟩ : Cond) ∈ lw_tbl := (List.mem_append_right _ (List.mem_append_left _ (List.mem_of_getElem? (i := 202) rfl)))
theorem wt_189 : (.sameMethod "java/lang/Throwable" "java/lang/Throwable" "fillInStackTrace" "()Ljava/lang/Throwable;" : Cond) ∈ lw_tbl := (List.mem_append_right _ (List.mem_append_left _ (List.mem_of_getElem? (i := 203) rfl)))
theorem wt_190 : (.selects "java/lang/IllegalArgumentException" ⟨"java/lang/Throwable", "fillInStackTrace", "()Ljava/lang/Throwable;"⟩ ⟨"java/lang/Throwable", "fillInStackTrace", "()Ljava/lang/Throwable;"⟩ : Cond) ∈ lw_tbl := (List.mem_append_right _ (List.mem_append_left _ (List.mem_of_getElem? (i := 204) rfl)))
theorem wt_191 : (.selects "java/lang/IllegalStateException" ⟨"java/lang/Throwable", "fillInStackTrace", "()Ljava/lang/Throwable;"⟩ ⟨"java/lang/Throwable", "fillInStackTrace", "()Ljava/lang/Throwable;"⟩ : Cond) ∈ lw_tbl := (List.mem_append_right _ (List.mem_append_left _ (List.mem_of_getElem? (i := 205) rfl)))
theorem wt_192 : (.selects "java/lang/IndexOutOfBoundsException" ⟨"java/lang/Throwable", "fillInStackTrace", "()Ljava/lang/Throwable;"⟩ ⟨"java/lang/Throwable", "fillInStackTrace", "()Ljava/lang/Throwable;"⟩ : Cond) ∈ lw_tbl := (List.mem_append_right _ (List.mem_append_left _ (List.mem_of_getElem? (i := 206) rfl)))
theorem wt_193 : (.codeSync ⟨"java/lang/Throwable", "fillInStackTrace", "()Ljava/lang/Throwable;"⟩ prog_15_method_18_code 1 (some (.object "java/lang/Throwable")) : Cond) ∈ lw_tbl := (List.mem_append_right _ (List.mem_append_left _ (List.mem_of_getElem? (i := 207) rfl)))
theorem wt_194 : (.methodLink "java/lang/Throwable" 202 ⟨"java/lang/Throwable", "fillInStackTrace", "(I)Ljava/lang/Throwable;"⟩ : Cond) ∈ lw_tbl := (List.mem_append_right _ (List.mem_append_left _ (List.mem_of_getElem? (i := 208) rfl)))
theorem wt_195 : (.instanceMethod ⟨"java/lang/Throwable", "fillInStackTrace", "(I)Ljava/lang/Throwable;"⟩ : Cond) ∈ lw_tbl := (List.mem_append_right _ (List.mem_append_left _ (List.mem_of_getElem? (i := 210) rfl)))
theorem wt_196 : (.instantiable "java/lang/Throwable" 6 : Cond) ∈ lw_tbl := (List.mem_append_right _ (List.mem_append_left _ (List.mem_of_getElem? (i := 211) rfl)))
theorem wt_197 : (.native ⟨"java/lang/Throwable", "fillInStackTrace", "(I)Ljava/lang/Throwable;"⟩ : Cond) ∈ lw_tbl := (List.mem_append_right _ (List.mem_append_left _ (List.mem_of_getElem? (i := 212) rfl)))
theorem wt_198 : (.methodLink "ShortenPrograms" 62 ⟨"java/lang/UnsupportedOperationException", "<init>", "(Ljava/lang/String;)V"⟩ : Cond) ∈ lw_tbl := (List.mem_append_right _ (List.mem_append_left _ (List.mem_of_getElem? (i := 214) rfl)))
theorem wt_199 : (.instanceMethod ⟨"java/lang/UnsupportedOperationException", "<init>", "(Ljava/lang/String;)V"⟩ : Cond) ∈ lw_tbl := (List.mem_append_right _ (List.mem_append_left _ (List.mem_of_getElem? (i := 215) rfl)))
theorem wt_200 : (.code ⟨"java/lang/UnsupportedOperationException", "<init>", "(Ljava/lang/String;)V"⟩ prog_16_method_2_code 2 none : Cond) ∈ lw_tbl := (List.mem_append_right _ (List.mem_append_left _ (List.mem_of_getElem? (i := 216) rfl)))
theorem wt_201 : (.methodLink "java/lang/UnsupportedOperationException" 7 ⟨"java/lang/RuntimeException", "<init>", "(Ljava/lang/String;)V"⟩ : Cond) ∈ lw_tbl := (List.mem_append_right _ (List.mem_append_left _ (List.mem_of_getElem? (i := 217) rfl)))
theorem wt_202 : (.instanceMethod ⟨"java/lang/RuntimeException", "<init>", "(Ljava/lang/String;)V"⟩ : Cond) ∈ lw_tbl := (List.mem_append_right _ (List.mem_append_left _ (List.mem_of_getElem? (i := 218) rfl)))
theorem wt_203 : (.code ⟨"java/lang/RuntimeException", "<init>", "(Ljava/lang/String;)V"⟩ prog_13_method_2_code 2 none : Cond) ∈ lw_tbl := (List.mem_append_right _ (List.mem_append_left _ (List.mem_of_getElem? (i := 219) rfl)))
theorem wt_204 : (.methodLink "java/lang/RuntimeException" 7 ⟨"java/lang/Exception", "<init>", "(Ljava/lang/String;)V"⟩ : Cond) ∈ lw_tbl := (List.mem_append_right _ (List.mem_append_left _ (List.mem_of_getElem? (i := 220) rfl)))
theorem wt_205 : (.instanceMethod ⟨"java/lang/Exception", "<init>", "(Ljava/lang/String;)V"⟩ : Cond) ∈ lw_tbl := (List.mem_append_right _ (List.mem_append_left _ (List.mem_of_getElem? (i := 221) rfl)))
theorem wt_206 : (.code ⟨"java/lang/Exception", "<init>", "(Ljava/lang/String;)V"⟩ prog_8_method_2_code 2 none : Cond) ∈ lw_tbl := (List.mem_append_right _ (List.mem_append_left _ (List.mem_of_getElem? (i := 222) rfl)))
theorem wt_207 : (.methodLink "java/lang/Exception" 7 ⟨"java/lang/Throwable", "<init>", "(Ljava/lang/String;)V"⟩ : Cond) ∈ lw_tbl := (List.mem_append_right _ (List.mem_append_left _ (List.mem_of_getElem? (i := 223) rfl)))
theorem wt_208 : (.instanceMethod ⟨"java/lang/Throwable", "<init>", "(Ljava/lang/String;)V"⟩ : Cond) ∈ lw_tbl := (List.mem_append_right _ (List.mem_append_left _ (List.mem_of_getElem? (i := 224) rfl)))
theorem wt_209 : (.code ⟨"java/lang/Throwable", "<init>", "(Ljava/lang/String;)V"⟩ prog_15_method_2_code 2 none : Cond) ∈ lw_tbl := (List.mem_append_right _ (List.mem_append_left _ (List.mem_of_getElem? (i := 225) rfl)))
theorem wt_210 : (.fieldLink "java/lang/Throwable" 198 "java/lang/Throwable" "backtrace" "Ljava/lang/Object;" : Cond) ∈ lw_tbl := (List.mem_append_right _ (List.mem_append_left _ (List.mem_of_getElem? (i := 226) rfl)))
theorem wt_211 : (.fieldLink "java/lang/Throwable" 31 "java/lang/Throwable" "detailMessage" "Ljava/lang/String;" : Cond) ∈ lw_tbl := (List.mem_append_right _ (List.mem_append_left _ (List.mem_of_getElem? (i := 227) rfl)))
theorem wt_212 : (.fieldLink "java/lang/Throwable" 7 "java/lang/Throwable" "cause" "Ljava/lang/Throwable;" : Cond) ∈ lw_tbl := (List.mem_append_right _ (List.mem_append_left _ (List.mem_of_getElem? (i := 228) rfl)))
theorem wt_213 : (.fieldLink "java/lang/Throwable" 17 "java/lang/Throwable" "stackTrace" "[Ljava/lang/StackTraceElement;" : Cond) ∈ lw_tbl := (List.mem_append_right _ (List.mem_append_left _ (List.mem_of_getElem? (i := 229) rfl)))
theorem wt_214 : (.fieldLink "java/lang/Throwable" 24 "java/lang/Throwable" "suppressedExceptions" "Ljava/util/List;" : Cond) ∈ lw_tbl := (List.mem_append_right _ (List.mem_append_left _ (List.mem_of_getElem? (i := 230) rfl)))
theorem wt_215 : (.soleField "java/lang/Throwable" "backtrace" : Cond) ∈ lw_tbl := (List.mem_append_right _ (List.mem_append_left _ (List.mem_of_getElem? (i := 231) rfl)))
theorem wt_216 : (.soleField "java/lang/Throwable" "detailMessage" : Cond) ∈ lw_tbl := (List.mem_append_right _ (List.mem_append_left _ (List.mem_of_getElem? (i := 232) rfl)))
theorem wt_217 : (.soleField "java/lang/Throwable" "cause" : Cond) ∈ lw_tbl := (List.mem_append_right _ (List.mem_append_left _ (List.mem_of_getElem? (i := 233) rfl)))
theorem wt_218 : (.soleField "java/lang/Throwable" "stackTrace" : Cond) ∈ lw_tbl := (List.mem_append_right _ (List.mem_append_left _ (List.mem_of_getElem? (i := 234) rfl)))
theorem wt_219 : (.lays "java/lang/UnsupportedOperationException" "java/lang/Throwable" "depth" "I" : Cond) ∈ lw_tbl := (List.mem_append_right _ (List.mem_append_left _ (List.mem_of_getElem? (i := 235) rfl)))
theorem wt_220 : (.soleField "java/lang/Throwable" "depth" : Cond) ∈ lw_tbl := (List.mem_append_right _ (List.mem_append_left _ (List.mem_of_getElem? (i := 236) rfl)))
theorem wt_221 : (.soleField "java/lang/Throwable" "suppressedExceptions" : Cond) ∈ lw_tbl := (List.mem_append_right _ (List.mem_append_left _ (List.mem_of_getElem? (i := 237) rfl)))
theorem wt_222 : (.superclass "java/lang/UnsupportedOperationException" "java/lang/RuntimeException" : Cond) ∈ lw_tbl := (List.mem_append_right _ (List.mem_append_left _ (List.mem_of_getElem? (i := 238) rfl)))
theorem wt_223 : (.arrayClass .byte : Cond) ∈ lw_tbl := (List.mem_append_right _ (List.mem_append_left _ (List.mem_of_getElem? (i := 239) rfl)))
theorem wt_224 : (.methodLink "ShortenPrograms" 65 yP_append : Cond) ∈ lw_tbl := (List.mem_append_right _ (List.mem_append_right _ (List.mem_append_left _ (List.mem_of_getElem? (i := 0) rfl))))
theorem wt_225 : (.instanceMethod yP_append : Cond) ∈ lw_tbl := (List.mem_append_right _ (List.mem_append_right _ (List.mem_append_left _ (List.mem_of_getElem? (i := 1) rfl))))
theorem wt_226 : (.selects "ShortenPrograms$Program" yP_append yP_append : Cond) ∈ lw_tbl := (List.mem_append_right _ (List.mem_append_right _ (List.mem_append_left _ (List.mem_of_getElem? (i := 2) rfl))))
theorem wt_227 : (.code yP_append prog_4_method_8_code 2 none : Cond) ∈ lw_tbl := (List.mem_append_right _ (List.mem_append_right _ (List.mem_append_left _ (List.mem_of_getElem? (i := 3) rfl))))
theorem wt_228 : (.methodLink "ShortenProgramsLaw" 63 yL_begin : Cond) ∈ lw_tbl := (List.mem_append_right _ (List.mem_append_right _ (List.mem_append_left _ (List.mem_of_getElem? (i := 4) rfl))))
theorem wt_229 : (.static yL_begin : Cond) ∈ lw_tbl := (List.mem_append_right _ (List.mem_append_right _ (List.mem_append_left _ (List.mem_of_getElem? (i := 5) rfl))))
theorem wt_230 : (.codeWith yL_begin method_4_code 2 (some .int) [(0, 4, 7, 18)] : Cond) ∈ lw_tbl := (List.mem_append_right _ (List.mem_append_right _ (List.mem_append_left _ (List.mem_of_getElem? (i := 6) rfl))))
theorem wt_231 : (.classLink "ShortenProgramsLaw" 18 "java/lang/IllegalStateException" : Cond) ∈ lw_tbl := (List.mem_append_right _ (List.mem_append_right _ (List.mem_append_left _ (List.mem_of_getElem? (i := 7) rfl))))
theorem wt_232 : (.methodLink "ShortenProgramsLaw" 15 yS_begin : Cond) ∈ lw_tbl := (List.mem_append_right _ (List.mem_append_right _ (List.mem_append_left _ (List.mem_of_getElem? (i := 8) rfl))))
theorem wt_233 : (.instanceMethod yS_begin : Cond) ∈ lw_tbl := (List.mem_append_right _ (List.mem_append_right _ (List.mem_append_left _ (List.mem_of_getElem? (i := 9) rfl))))
theorem wt_234 : (.selects "ShortenPrograms" yS_begin yS_begin : Cond) ∈ lw_tbl := (List.mem_append_right _ (List.mem_append_right _ (List.mem_append_left _ (List.mem_of_getElem? (i := 10) rfl))))
theorem wt_235 : (.code yS_begin prog_1_method_3_code 1 none : Cond) ∈ lw_tbl := (List.mem_append_right _ (List.mem_append_right _ (List.mem_append_left _ (List.mem_of_getElem? (i := 11) rfl))))
theorem wt_236 : (.classLink "ShortenPrograms" 73 "java/lang/IllegalStateException" : Cond) ∈ lw_tbl := (List.mem_append_right _ (List.mem_append_right _ (List.mem_append_left _ (List.mem_of_getElem? (i := 12) rfl))))
theorem wt_237 : (.instantiable "java/lang/IllegalStateException" 6 : Cond) ∈ lw_tbl := (List.mem_append_right _ (List.mem_append_right _ (List.mem_append_left _ (List.mem_of_getElem? (i := 13) rfl))))
theorem wt_238 : (.selects "java/lang/IllegalStateException" ⟨"java/lang/Throwable", "fillInStackTrace", "(I)Ljava/lang/Throwable;"⟩ ⟨"java/lang/Throwable", "fillInStackTrace", "(I)Ljava/lang/Throwable;"⟩ : Cond) ∈ lw_tbl := (List.mem_append_right _ (List.mem_append_right _ (List.mem_append_left _ (List.mem_of_getElem? (i := 15) rfl))))
theorem wt_239 : (.lays "java/lang/IllegalStateException" "java/lang/Throwable" "cause" "Ljava/lang/Throwable;" : Cond) ∈ lw_tbl := (List.mem_append_right _ (List.mem_append_right _ (List.mem_append_left _ (List.mem_of_getElem? (i := 16) rfl))))
theorem wt_240 : (.lays "java/lang/IllegalStateException" "java/lang/Throwable" "stackTrace" "[Ljava/lang/StackTraceElement;" : Cond) ∈ lw_tbl := (List.mem_append_right _ (List.mem_append_right _ (List.mem_append_left _ (List.mem_of_getElem? (i := 17) rfl))))
theorem wt_241 : (.lays "java/lang/IllegalStateException" "java/lang/Throwable" "suppressedExceptions" "Ljava/util/List;" : Cond) ∈ lw_tbl := (List.mem_append_right _ (List.mem_append_right _ (List.mem_append_left _ (List.mem_of_getElem? (i := 18) rfl))))
theorem wt_242 : (.lays "java/lang/IllegalStateException" "java/lang/Throwable" "detailMessage" "Ljava/lang/String;" : Cond) ∈ lw_tbl := (List.mem_append_right _ (List.mem_append_right _ (List.mem_append_left _ (List.mem_of_getElem? (i := 19) rfl))))
theorem wt_243 : (.lays "java/lang/IllegalStateException" "java/lang/Throwable" "backtrace" "Ljava/lang/Object;" : Cond) ∈ lw_tbl := (List.mem_append_right _ (List.mem_append_right _ (List.mem_append_left _ (List.mem_of_getElem? (i := 20) rfl))))
theorem wt_244 : (.methodLink "ShortenPrograms" 77 ⟨"java/lang/IllegalStateException", "<init>", "(Ljava/lang/String;)V"⟩ : Cond) ∈ lw_tbl := (List.mem_append_right _ (List.mem_append_right _ (List.mem_append_left _ (List.mem_of_getElem? (i := 22) rfl))))
theorem wt_245 : (.instanceMethod ⟨"java/lang/IllegalStateException", "<init>", "(Ljava/lang/String;)V"⟩ : Cond) ∈ lw_tbl := (List.mem_append_right _ (List.mem_append_right _ (List.mem_append_left _ (List.mem_of_getElem? (i := 23) rfl))))
theorem wt_246 : (.code ⟨"java/lang/IllegalStateException", "<init>", "(Ljava/lang/String;)V"⟩ prog_10_method_2_code 2 none : Cond) ∈ lw_tbl := (List.mem_append_right _ (List.mem_append_right _ (List.mem_append_left _ (List.mem_of_getElem? (i := 24) rfl))))
theorem wt_247 : (.methodLink "java/lang/IllegalStateException" 7 ⟨"java/lang/RuntimeException", "<init>", "(Ljava/lang/String;)V"⟩ : Cond) ∈ lw_tbl := (List.mem_append_right _ (List.mem_append_right _ (List.mem_append_left _ (List.mem_of_getElem? (i := 25) rfl))))
theorem wt_248 : (.lays "java/lang/IllegalStateException" "java/lang/Throwable" "depth" "I" : Cond) ∈ lw_tbl := (List.mem_append_right _ (List.mem_append_right _ (List.mem_append_left _ (List.mem_of_getElem? (i := 26) rfl))))
theorem wt_249 : (.superclass "java/lang/IllegalStateException" "java/lang/RuntimeException" : Cond) ∈ lw_tbl := (List.mem_append_right _ (List.mem_append_right _ (List.mem_append_left _ (List.mem_of_getElem? (i := 27) rfl))))
theorem wt_250 : (.methodLink "ShortenPrograms" 78 yM_keep : Cond) ∈ lw_tbl := (List.mem_append_right _ (List.mem_append_right _ (List.mem_append_left _ (List.mem_of_getElem? (i := 28) rfl))))
theorem wt_251 : (.instanceMethod yM_keep : Cond) ∈ lw_tbl := (List.mem_append_right _ (List.mem_append_right _ (List.mem_append_left _ (List.mem_of_getElem? (i := 29) rfl))))
theorem wt_252 : (.selects "ShortenPrograms$Memory" yM_keep yM_keep : Cond) ∈ lw_tbl := (List.mem_append_right _ (List.mem_append_right _ (List.mem_append_left _ (List.mem_of_getElem? (i := 30) rfl))))
theorem wt_253 : (.code yM_keep prog_3_method_4_code 3 none : Cond) ∈ lw_tbl := (List.mem_append_right _ (List.mem_append_right _ (List.mem_append_left _ (List.mem_of_getElem? (i := 31) rfl))))
theorem wt_254 : (.instantiable "ShortenPrograms$Ask" 3 : Cond) ∈ lw_tbl := (List.mem_append_right _ (List.mem_append_right _ (List.mem_append_left _ (List.mem_of_getElem? (i := 32) rfl))))
theorem wt_255 : (.instanceMethod yA_init : Cond) ∈ lw_tbl := (List.mem_append_right _ (List.mem_append_right _ (List.mem_append_left _ (List.mem_of_getElem? (i := 34) rfl))))
theorem wt_256 : (.code yA_init prog_2_method_1_code 1 none : Cond) ∈ lw_tbl := (List.mem_append_right _ (List.mem_append_right _ (List.mem_append_left _ (List.mem_of_getElem? (i := 35) rfl))))
theorem wt_257 : (.methodLink "ShortenPrograms$Ask" 3 ⟨"java/lang/Object", "<init>", "()V"⟩ : Cond) ∈ lw_tbl := (List.mem_append_right _ (List.mem_append_right _ (List.mem_append_left _ (List.mem_of_getElem? (i := 36) rfl))))
theorem wt_258 : (.classLink "ShortenPrograms$Ask" 9 "ShortenPrograms$Program" : Cond) ∈ lw_tbl := (List.mem_append_right _ (List.mem_append_right _ (List.mem_append_left _ (List.mem_of_getElem? (i := 37) rfl))))
theorem wt_259 : (.fieldLink "ShortenPrograms$Ask" 12 "ShortenPrograms$Ask" "program" "LShortenPrograms$Program;" : Cond) ∈ lw_tbl := (List.mem_append_right _ (List.mem_append_right _ (List.mem_append_left _ (List.mem_of_getElem? (i := 39) rfl))))
theorem wt_260 : (.fieldLink "ShortenPrograms$Ask" 30 "ShortenPrograms$Ask" "mark" "I" : Cond) ∈ lw_tbl := (List.mem_append_right _ (List.mem_append_right _ (List.mem_append_left _ (List.mem_of_getElem? (i := 40) rfl))))
theorem wt_261 : (.fieldLink "ShortenPrograms$Ask" 18 "ShortenPrograms$Ask" "answer" "I" : Cond) ∈ lw_tbl := (List.mem_append_right _ (List.mem_append_right _ (List.mem_append_left _ (List.mem_of_getElem? (i := 41) rfl))))
theorem wt_262 : (.laysFinal "ShortenPrograms$Ask" "ShortenPrograms$Ask" "program" "LShortenPrograms$Program;" : Cond) ∈ lw_tbl := (List.mem_append_right _ (List.mem_append_right _ (List.mem_append_left _ (List.mem_of_getElem? (i := 42) rfl))))
theorem wt_263 : (.soleField "ShortenPrograms$Ask" "program" : Cond) ∈ lw_tbl := (List.mem_append_right _ (List.mem_append_right _ (List.mem_append_left _ (List.mem_of_getElem? (i := 43) rfl))))
theorem wt_264 : (.lays "ShortenPrograms$Ask" "ShortenPrograms$Ask" "mark" "I" : Cond) ∈ lw_tbl := (List.mem_append_right _ (List.mem_append_right _ (List.mem_append_left _ (List.mem_of_getElem? (i := 44) rfl))))
theorem wt_265 : (.soleField "ShortenPrograms$Ask" "mark" : Cond) ∈ lw_tbl := (List.mem_append_right _ (List.mem_append_right _ (List.mem_append_left _ (List.mem_of_getElem? (i := 45) rfl))))
theorem wt_266 : (.lays "ShortenPrograms$Ask" "ShortenPrograms$Ask" "answer" "I" : Cond) ∈ lw_tbl := (List.mem_append_right _ (List.mem_append_right _ (List.mem_append_left _ (List.mem_of_getElem? (i := 46) rfl))))
theorem wt_267 : (.soleField "ShortenPrograms$Ask" "answer" : Cond) ∈ lw_tbl := (List.mem_append_right _ (List.mem_append_right _ (List.mem_append_left _ (List.mem_of_getElem? (i := 47) rfl))))
theorem wt_268 : (.superclass "ShortenPrograms$Ask" "java/lang/Object" : Cond) ∈ lw_tbl := (List.mem_append_right _ (List.mem_append_right _ (List.mem_append_left _ (List.mem_of_getElem? (i := 48) rfl))))
theorem wt_269 : (.methodLink "ShortenPrograms$Memory" 22 yA_open : Cond) ∈ lw_tbl := (List.mem_append_right _ (List.mem_append_right _ (List.mem_append_left _ (List.mem_of_getElem? (i := 49) rfl))))
theorem wt_270 : (.instanceMethod yA_open : Cond) ∈ lw_tbl := (List.mem_append_right _ (List.mem_append_right _ (List.mem_append_left _ (List.mem_of_getElem? (i := 50) rfl))))
theorem wt_271 : (.selects "ShortenPrograms$Ask" yA_open yA_open : Cond) ∈ lw_tbl := (List.mem_append_right _ (List.mem_append_right _ (List.mem_append_left _ (List.mem_of_getElem? (i := 51) rfl))))
theorem wt_272 : (.code yA_open prog_2_method_5_code 2 none : Cond) ∈ lw_tbl := (List.mem_append_right _ (List.mem_append_right _ (List.mem_append_left _ (List.mem_of_getElem? (i := 52) rfl))))
theorem wt_273 : (.methodLink "ShortenPrograms$Ask" 22 yP_copy : Cond) ∈ lw_tbl := (List.mem_append_right _ (List.mem_append_right _ (List.mem_append_left _ (List.mem_of_getElem? (i := 53) rfl))))
theorem wt_274 : (.instanceMethod yP_copy : Cond) ∈ lw_tbl := (List.mem_append_right _ (List.mem_append_right _ (List.mem_append_left _ (List.mem_of_getElem? (i := 54) rfl))))
theorem wt_275 : (.selects "ShortenPrograms$Program" yP_copy yP_copy : Cond) ∈ lw_tbl := (List.mem_append_right _ (List.mem_append_right _ (List.mem_append_left _ (List.mem_of_getElem? (i := 55) rfl))))
theorem wt_276 : (.code yP_copy prog_4_method_9_code 4 none : Cond) ∈ lw_tbl := (List.mem_append_right _ (List.mem_append_right _ (List.mem_append_left _ (List.mem_of_getElem? (i := 56) rfl))))
theorem wt_277 : (.methodLink "ShortenPrograms$Program" 26 ⟨"java/lang/Math", "min", "(II)I"⟩ : Cond) ∈ lw_tbl := (List.mem_append_right _ (List.mem_append_right _ (List.mem_append_left _ (List.mem_of_getElem? (i := 57) rfl))))
theorem wt_278 : (.static ⟨"java/lang/Math", "min", "(II)I"⟩ : Cond) ∈ lw_tbl := (List.mem_append_right _ (List.mem_append_right _ (List.mem_append_left _ (List.mem_of_getElem? (i := 58) rfl))))
theorem wt_279 : (.code ⟨"java/lang/Math", "min", "(II)I"⟩ prog_12_method_69_code 2 (some .int) : Cond) ∈ lw_tbl := (List.mem_append_right _ (List.mem_append_right _ (List.mem_append_left _ (List.mem_of_getElem? (i := 59) rfl))))
theorem wt_280 : (.methodLink "ShortenPrograms$Ask" 26 yP_mark : Cond) ∈ lw_tbl := (List.mem_append_right _ (List.mem_append_right _ (List.mem_append_left _ (List.mem_of_getElem? (i := 60) rfl))))
theorem wt_281 : (.instanceMethod yP_mark : Cond) ∈ lw_tbl := (List.mem_append_right _ (List.mem_append_right _ (List.mem_append_left _ (List.mem_of_getElem? (i := 61) rfl))))
theorem wt_282 : (.selects "ShortenPrograms$Program" yP_mark yP_mark : Cond) ∈ lw_tbl := (List.mem_append_right _ (List.mem_append_right _ (List.mem_append_left _ (List.mem_of_getElem? (i := 62) rfl))))
theorem wt_283 : (.code yP_mark prog_4_method_15_code 3 (some .int) : Cond) ∈ lw_tbl := (List.mem_append_right _ (List.mem_append_right _ (List.mem_append_left _ (List.mem_of_getElem? (i := 63) rfl))))
theorem wt_284 : (.methodLink "ShortenProgramsLaw" 67 yL_asked : Cond) ∈ lw_tbl := (List.mem_append_right _ (List.mem_append_right _ (List.mem_append_left _ (List.mem_of_getElem? (i := 64) rfl))))
theorem wt_285 : (.static yL_asked : Cond) ∈ lw_tbl := (List.mem_append_right _ (List.mem_append_right _ (List.mem_append_left _ (List.mem_of_getElem? (i := 65) rfl))))
theorem wt_286 : (.codeWith yL_asked method_5_code 4 (some .int) [(0, 9, 12, 18), (0, 9, 15, 23)] : Cond) ∈ lw_tbl := (List.mem_append_right _ (List.mem_append_right _ (List.mem_append_left _ (List.mem_of_getElem? (i := 66) rfl))))
theorem wt_287 : (.classLink "ShortenProgramsLaw" 23 "java/lang/IndexOutOfBoundsException" : Cond) ∈ lw_tbl := (List.mem_append_right _ (List.mem_append_right _ (List.mem_append_left _ (List.mem_of_getElem? (i := 67) rfl))))
theorem wt_288 : (.methodLink "ShortenProgramsLaw" 20 yS_asked : Cond) ∈ lw_tbl := (List.mem_append_right _ (List.mem_append_right _ (List.mem_append_left _ (List.mem_of_getElem? (i := 68) rfl))))
theorem wt_289 : (.instanceMethod yS_asked : Cond) ∈ lw_tbl := (List.mem_append_right _ (List.mem_append_right _ (List.mem_append_left _ (List.mem_of_getElem? (i := 69) rfl))))
theorem wt_290 : (.selects "ShortenPrograms" yS_asked yS_asked : Cond) ∈ lw_tbl := (List.mem_append_right _ (List.mem_append_right _ (List.mem_append_left _ (List.mem_of_getElem? (i := 70) rfl))))
theorem wt_291 : (.code yS_asked prog_1_method_4_code 3 (some .int) : Cond) ∈ lw_tbl := (List.mem_append_right _ (List.mem_append_right _ (List.mem_append_left _ (List.mem_of_getElem? (i := 71) rfl))))
theorem wt_292 : (.methodLink "ShortenPrograms" 82 yS_openAsk : Cond) ∈ lw_tbl := (List.mem_append_right _ (List.mem_append_right _ (List.mem_append_left _ (List.mem_of_getElem? (i := 72) rfl))))
theorem wt_293 : (.instanceMethod yS_openAsk : Cond) ∈ lw_tbl := (List.mem_append_right _ (List.mem_append_right _ (List.mem_append_left _ (List.mem_of_getElem? (i := 74) rfl))))
theorem wt_294 : (.code yS_openAsk prog_1_method_12_code 1 (some (.object "ShortenPrograms$Ask")) : Cond) ∈ lw_tbl := (List.mem_append_right _ (List.mem_append_right _ (List.mem_append_left _ (List.mem_of_getElem? (i := 75) rfl))))
theorem wt_295 : (.methodLink "ShortenPrograms" 176 yM_last : Cond) ∈ lw_tbl := (List.mem_append_right _ (List.mem_append_right _ (List.mem_append_left _ (List.mem_of_getElem? (i := 76) rfl))))
theorem wt_296 : (.instanceMethod yM_last : Cond) ∈ lw_tbl := (List.mem_append_right _ (List.mem_append_right _ (List.mem_append_left _ (List.mem_of_getElem? (i := 77) rfl))))
theorem wt_297 : (.selects "ShortenPrograms$Memory" yM_last yM_last : Cond) ∈ lw_tbl := (List.mem_append_right _ (List.mem_append_right _ (List.mem_append_left _ (List.mem_of_getElem? (i := 78) rfl))))
theorem wt_298 : (.code yM_last prog_3_method_5_code 1 (some (.object "ShortenPrograms$Ask")) : Cond) ∈ lw_tbl := (List.mem_append_right _ (List.mem_append_right _ (List.mem_append_left _ (List.mem_of_getElem? (i := 79) rfl))))
theorem wt_299 : (.methodLink "ShortenPrograms" 88 yA_program : Cond) ∈ lw_tbl := (List.mem_append_right _ (List.mem_append_right _ (List.mem_append_left _ (List.mem_of_getElem? (i := 81) rfl))))
theorem wt_300 : (.instanceMethod yA_program : Cond) ∈ lw_tbl := (List.mem_append_right _ (List.mem_append_right _ (List.mem_append_left _ (List.mem_of_getElem? (i := 82) rfl))))
theorem wt_301 : (.selects "ShortenPrograms$Ask" yA_program yA_program : Cond) ∈ lw_tbl := (List.mem_append_right _ (List.mem_append_right _ (List.mem_append_left _ (List.mem_of_getElem? (i := 83) rfl))))
theorem wt_302 : (.code yA_program prog_2_method_2_code 1 (some (.object "ShortenPrograms$Program")) : Cond) ∈ lw_tbl := (List.mem_append_right _ (List.mem_append_right _ (List.mem_append_left _ (List.mem_of_getElem? (i := 84) rfl))))
theorem wt_303 : (.methodLink "ShortenPrograms" 94 yP_has : Cond) ∈ lw_tbl := (List.mem_append_right _ (List.mem_append_right _ (List.mem_append_left _ (List.mem_of_getElem? (i := 85) rfl))))
theorem wt_304 : (.instanceMethod yP_has : Cond) ∈ lw_tbl := (List.mem_append_right _ (List.mem_append_right _ (List.mem_append_left _ (List.mem_of_getElem? (i := 86) rfl))))
theorem wt_305 : (.selects "ShortenPrograms$Program" yP_has yP_has : Cond) ∈ lw_tbl := (List.mem_append_right _ (List.mem_append_right _ (List.mem_append_left _ (List.mem_of_getElem? (i := 87) rfl))))
theorem wt_306 : (.code yP_has prog_4_method_4_code 2 (some .boolean) : Cond) ∈ lw_tbl := (List.mem_append_right _ (List.mem_append_right _ (List.mem_append_left _ (List.mem_of_getElem? (i := 88) rfl))))
theorem wt_307 : (.classLink "ShortenPrograms" 98 "java/lang/IndexOutOfBoundsException" : Cond) ∈ lw_tbl := (List.mem_append_right _ (List.mem_append_right _ (List.mem_append_left _ (List.mem_of_getElem? (i := 89) rfl))))
theorem wt_308 : (.instantiable "java/lang/IndexOutOfBoundsException" 6 : Cond) ∈ lw_tbl := (List.mem_append_right _ (List.mem_append_right _ (List.mem_append_left _ (List.mem_of_getElem? (i := 90) rfl))))
theorem wt_309 : (.selects "java/lang/IndexOutOfBoundsException" ⟨"java/lang/Throwable", "fillInStackTrace", "(I)Ljava/lang/Throwable;"⟩ ⟨"java/lang/Throwable", "fillInStackTrace", "(I)Ljava/lang/Throwable;"⟩ : Cond) ∈ lw_tbl := (List.mem_append_right _ (List.mem_append_right _ (List.mem_append_left _ (List.mem_of_getElem? (i := 92) rfl))))
theorem wt_310 : (.lays "java/lang/IndexOutOfBoundsException" "java/lang/Throwable" "cause" "Ljava/lang/Throwable;" : Cond) ∈ lw_tbl := (List.mem_append_right _ (List.mem_append_right _ (List.mem_append_left _ (List.mem_of_getElem? (i := 93) rfl))))
theorem wt_311 : (.lays "java/lang/IndexOutOfBoundsException" "java/lang/Throwable" "stackTrace" "[Ljava/lang/StackTraceElement;" : Cond) ∈ lw_tbl := (List.mem_append_right _ (List.mem_append_right _ (List.mem_append_left _ (List.mem_of_getElem? (i := 94) rfl))))
theorem wt_312 : (.lays "java/lang/IndexOutOfBoundsException" "java/lang/Throwable" "suppressedExceptions" "Ljava/util/List;" : Cond) ∈ lw_tbl := (List.mem_append_right _ (List.mem_append_right _ (List.mem_append_left _ (List.mem_of_getElem? (i := 95) rfl))))
theorem wt_313 : (.lays "java/lang/IndexOutOfBoundsException" "java/lang/Throwable" "detailMessage" "Ljava/lang/String;" : Cond) ∈ lw_tbl := (List.mem_append_right _ (List.mem_append_right _ (List.mem_append_left _ (List.mem_of_getElem? (i := 96) rfl))))
theorem wt_314 : (.lays "java/lang/IndexOutOfBoundsException" "java/lang/Throwable" "backtrace" "Ljava/lang/Object;" : Cond) ∈ lw_tbl := (List.mem_append_right _ (List.mem_append_right _ (List.mem_append_left _ (List.mem_of_getElem? (i := 97) rfl))))
theorem wt_315 : (.methodLink "ShortenPrograms" 102 ⟨"java/lang/IndexOutOfBoundsException", "<init>", "(Ljava/lang/String;)V"⟩ : Cond) ∈ lw_tbl := (List.mem_append_right _ (List.mem_append_right _ (List.mem_append_left _ (List.mem_of_getElem? (i := 99) rfl))))
theorem wt_316 : (.instanceMethod ⟨"java/lang/IndexOutOfBoundsException", "<init>", "(Ljava/lang/String;)V"⟩ : Cond) ∈ lw_tbl := (List.mem_append_right _ (List.mem_append_right _ (List.mem_append_left _ (List.mem_of_getElem? (i := 100) rfl))))
theorem wt_317 : (.code ⟨"java/lang/IndexOutOfBoundsException", "<init>", "(Ljava/lang/String;)V"⟩ prog_11_method_2_code 2 none : Cond) ∈ lw_tbl := (List.mem_append_right _ (List.mem_append_right _ (List.mem_append_left _ (List.mem_of_getElem? (i := 101) rfl))))
theorem wt_318 : (.methodLink "java/lang/IndexOutOfBoundsException" 7 ⟨"java/lang/RuntimeException", "<init>", "(Ljava/lang/String;)V"⟩ : Cond) ∈ lw_tbl := (List.mem_append_right _ (List.mem_append_right _ (List.mem_append_left _ (List.mem_of_getElem? (i := 102) rfl))))
theorem wt_319 : (.lays "java/lang/IndexOutOfBoundsException" "java/lang/Throwable" "depth" "I" : Cond) ∈ lw_tbl := (List.mem_append_right _ (List.mem_append_right _ (List.mem_append_left _ (List.mem_of_getElem? (i := 103) rfl))))
theorem wt_320 : (.superclass "java/lang/IndexOutOfBoundsException" "java/lang/RuntimeException" : Cond) ∈ lw_tbl := (List.mem_append_right _ (List.mem_append_right _ (List.mem_append_left _ (List.mem_of_getElem? (i := 104) rfl))))
theorem wt_321 : (.methodLink "ShortenPrograms" 103 yP_word : Cond) ∈ lw_tbl := (List.mem_append_right _ (List.mem_append_right _ (List.mem_append_left _ (List.mem_of_getElem? (i := 105) rfl))))
theorem wt_322 : (.instanceMethod yP_word : Cond) ∈ lw_tbl := (List.mem_append_right _ (List.mem_append_right _ (List.mem_append_left _ (List.mem_of_getElem? (i := 106) rfl))))
theorem wt_323 : (.selects "ShortenPrograms$Program" yP_word yP_word : Cond) ∈ lw_tbl := (List.mem_append_right _ (List.mem_append_right _ (List.mem_append_left _ (List.mem_of_getElem? (i := 107) rfl))))
theorem wt_324 : (.code yP_word prog_4_method_5_code 2 (some .int) : Cond) ∈ lw_tbl := (List.mem_append_right _ (List.mem_append_right _ (List.mem_append_left _ (List.mem_of_getElem? (i := 108) rfl))))
theorem wt_325 : (.methodLink "ShortenPrograms$Program" 22 yP_has : Cond) ∈ lw_tbl := (List.mem_append_right _ (List.mem_append_right _ (List.mem_append_left _ (List.mem_of_getElem? (i := 109) rfl))))
theorem wt_326 : (.methodLink "ShortenProgramsLaw" 70 yL_size : Cond) ∈ lw_tbl := (List.mem_append_right _ (List.mem_append_right _ (List.mem_append_left _ (List.mem_of_getElem? (i := 110) rfl))))
theorem wt_327 : (.static yL_size : Cond) ∈ lw_tbl := (List.mem_append_right _ (List.mem_append_right _ (List.mem_append_left _ (List.mem_of_getElem? (i := 111) rfl))))
theorem wt_328 : (.codeWith yL_size method_6_code 3 (some .int) [(0, 8, 11, 18)] : Cond) ∈ lw_tbl := (List.mem_append_right _ (List.mem_append_right _ (List.mem_append_left _ (List.mem_of_getElem? (i := 112) rfl))))
theorem wt_329 : (.methodLink "ShortenProgramsLaw" 25 yS_size : Cond) ∈ lw_tbl := (List.mem_append_right _ (List.mem_append_right _ (List.mem_append_left _ (List.mem_of_getElem? (i := 113) rfl))))
theorem wt_330 : (.instanceMethod yS_size : Cond) ∈ lw_tbl := (List.mem_append_right _ (List.mem_append_right _ (List.mem_append_left _ (List.mem_of_getElem? (i := 114) rfl))))
theorem wt_331 : (.selects "ShortenPrograms" yS_size yS_size : Cond) ∈ lw_tbl := (List.mem_append_right _ (List.mem_append_right _ (List.mem_append_left _ (List.mem_of_getElem? (i := 115) rfl))))
theorem wt_332 : (.code yS_size prog_1_method_5_code 2 (some .int) : Cond) ∈ lw_tbl := (List.mem_append_right _ (List.mem_append_right _ (List.mem_append_left _ (List.mem_of_getElem? (i := 116) rfl))))
theorem wt_333 : (.methodLink "ShortenProgramsLaw" 74 yL_judge : Cond) ∈ lw_tbl := (List.mem_append_right _ (List.mem_append_right _ (List.mem_append_left _ (List.mem_of_getElem? (i := 117) rfl))))
theorem wt_334 : (.static yL_judge : Cond) ∈ lw_tbl := (List.mem_append_right _ (List.mem_append_right _ (List.mem_append_left _ (List.mem_of_getElem? (i := 118) rfl))))
theorem wt_335 : (.codeWith yL_judge method_7_code 4 (some .int) [(0, 9, 12, 18), (0, 9, 15, 32)] : Cond) ∈ lw_tbl := (List.mem_append_right _ (List.mem_append_right _ (List.mem_append_left _ (List.mem_of_getElem? (i := 119) rfl))))
theorem wt_336 : (.classLink "ShortenProgramsLaw" 32 "java/lang/IllegalArgumentException" : Cond) ∈ lw_tbl := (List.mem_append_right _ (List.mem_append_right _ (List.mem_append_left _ (List.mem_of_getElem? (i := 120) rfl))))
theorem wt_337 : (.methodLink "ShortenProgramsLaw" 29 yS_judge : Cond) ∈ lw_tbl := (List.mem_append_right _ (List.mem_append_right _ (List.mem_append_left _ (List.mem_of_getElem? (i := 121) rfl))))
theorem wt_338 : (.instanceMethod yS_judge : Cond) ∈ lw_tbl := (List.mem_append_right _ (List.mem_append_right _ (List.mem_append_left _ (List.mem_of_getElem? (i := 122) rfl))))
theorem wt_339 : (.selects "ShortenPrograms" yS_judge yS_judge : Cond) ∈ lw_tbl := (List.mem_append_right _ (List.mem_append_right _ (List.mem_append_left _ (List.mem_of_getElem? (i := 123) rfl))))
theorem wt_340 : (.code yS_judge prog_1_method_6_code 3 (some .int) : Cond) ∈ lw_tbl := (List.mem_append_right _ (List.mem_append_right _ (List.mem_append_left _ (List.mem_of_getElem? (i := 124) rfl))))
theorem wt_341 : (.classLink "ShortenPrograms" 107 "java/lang/IllegalArgumentException" : Cond) ∈ lw_tbl := (List.mem_append_right _ (List.mem_append_right _ (List.mem_append_left _ (List.mem_of_getElem? (i := 125) rfl))))
theorem wt_342 : (.instantiable "java/lang/IllegalArgumentException" 6 : Cond) ∈ lw_tbl := (List.mem_append_right _ (List.mem_append_right _ (List.mem_append_left _ (List.mem_of_getElem? (i := 126) rfl))))
theorem wt_343 : (.selects "java/lang/IllegalArgumentException" ⟨"java/lang/Throwable", "fillInStackTrace", "(I)Ljava/lang/Throwable;"⟩ ⟨"java/lang/Throwable", "fillInStackTrace", "(I)Ljava/lang/Throwable;"⟩ : Cond) ∈ lw_tbl := (List.mem_append_right _ (List.mem_append_right _ (List.mem_append_left _ (List.mem_of_getElem? (i := 128) rfl))))
theorem wt_344 : (.lays "java/lang/IllegalArgumentException" "java/lang/Throwable" "cause" "Ljava/lang/Throwable;" : Cond) ∈ lw_tbl := (List.mem_append_right _ (List.mem_append_right _ (List.mem_append_left _ (List.mem_of_getElem? (i := 129) rfl))))
theorem wt_345 : (.lays "java/lang/IllegalArgumentException" "java/lang/Throwable" "stackTrace" "[Ljava/lang/StackTraceElement;" : Cond) ∈ lw_tbl := (List.mem_append_right _ (List.mem_append_right _ (List.mem_append_left _ (List.mem_of_getElem? (i := 130) rfl))))
theorem wt_346 : (.lays "java/lang/IllegalArgumentException" "java/lang/Throwable" "suppressedExceptions" "Ljava/util/List;" : Cond) ∈ lw_tbl := (List.mem_append_right _ (List.mem_append_right _ (List.mem_append_left _ (List.mem_of_getElem? (i := 131) rfl))))
theorem wt_347 : (.lays "java/lang/IllegalArgumentException" "java/lang/Throwable" "detailMessage" "Ljava/lang/String;" : Cond) ∈ lw_tbl := (List.mem_append_right _ (List.mem_append_right _ (List.mem_append_left _ (List.mem_of_getElem? (i := 132) rfl))))
theorem wt_348 : (.lays "java/lang/IllegalArgumentException" "java/lang/Throwable" "backtrace" "Ljava/lang/Object;" : Cond) ∈ lw_tbl := (List.mem_append_right _ (List.mem_append_right _ (List.mem_append_left _ (List.mem_of_getElem? (i := 133) rfl))))
theorem wt_349 : (.methodLink "ShortenPrograms" 111 ⟨"java/lang/IllegalArgumentException", "<init>", "(Ljava/lang/String;)V"⟩ : Cond) ∈ lw_tbl := (List.mem_append_right _ (List.mem_append_right _ (List.mem_append_left _ (List.mem_of_getElem? (i := 135) rfl))))
theorem wt_350 : (.instanceMethod ⟨"java/lang/IllegalArgumentException", "<init>", "(Ljava/lang/String;)V"⟩ : Cond) ∈ lw_tbl := (List.mem_append_right _ (List.mem_append_right _ (List.mem_append_left _ (List.mem_of_getElem? (i := 136) rfl))))
theorem wt_351 : (.code ⟨"java/lang/IllegalArgumentException", "<init>", "(Ljava/lang/String;)V"⟩ prog_9_method_2_code 2 none : Cond) ∈ lw_tbl := (List.mem_append_right _ (List.mem_append_right _ (List.mem_append_left _ (List.mem_of_getElem? (i := 137) rfl))))
theorem wt_352 : (.methodLink "java/lang/IllegalArgumentException" 7 ⟨"java/lang/RuntimeException", "<init>", "(Ljava/lang/String;)V"⟩ : Cond) ∈ lw_tbl := (List.mem_append_right _ (List.mem_append_right _ (List.mem_append_left _ (List.mem_of_getElem? (i := 138) rfl))))
theorem wt_353 : (.lays "java/lang/IllegalArgumentException" "java/lang/Throwable" "depth" "I" : Cond) ∈ lw_tbl := (List.mem_append_right _ (List.mem_append_right _ (List.mem_append_left _ (List.mem_of_getElem? (i := 139) rfl))))
theorem wt_354 : (.superclass "java/lang/IllegalArgumentException" "java/lang/RuntimeException" : Cond) ∈ lw_tbl := (List.mem_append_right _ (List.mem_append_right _ (List.mem_append_left _ (List.mem_of_getElem? (i := 140) rfl))))
theorem wt_355 : (.methodLink "ShortenPrograms" 112 yA_setAnswer : Cond) ∈ lw_tbl := (List.mem_append_right _ (List.mem_append_right _ (List.mem_append_left _ (List.mem_of_getElem? (i := 141) rfl))))
theorem wt_356 : (.instanceMethod yA_setAnswer : Cond) ∈ lw_tbl := (List.mem_append_right _ (List.mem_append_right _ (List.mem_append_left _ (List.mem_of_getElem? (i := 142) rfl))))
theorem wt_357 : (.selects "ShortenPrograms$Ask" yA_setAnswer yA_setAnswer : Cond) ∈ lw_tbl := (List.mem_append_right _ (List.mem_append_right _ (List.mem_append_left _ (List.mem_of_getElem? (i := 143) rfl))))
theorem wt_358 : (.code yA_setAnswer prog_2_method_4_code 2 none : Cond) ∈ lw_tbl := (List.mem_append_right _ (List.mem_append_right _ (List.mem_append_left _ (List.mem_of_getElem? (i := 144) rfl))))
theorem wt_359 : (.methodLink "ShortenPrograms" 115 yS_takeFirst : Cond) ∈ lw_tbl := (List.mem_append_right _ (List.mem_append_right _ (List.mem_append_left _ (List.mem_of_getElem? (i := 145) rfl))))
theorem wt_360 : (.instanceMethod yS_takeFirst : Cond) ∈ lw_tbl := (List.mem_append_right _ (List.mem_append_right _ (List.mem_append_left _ (List.mem_of_getElem? (i := 147) rfl))))
theorem wt_361 : (.code yS_takeFirst prog_1_method_13_code 2 none : Cond) ∈ lw_tbl := (List.mem_append_right _ (List.mem_append_right _ (List.mem_append_left _ (List.mem_of_getElem? (i := 148) rfl))))
theorem wt_362 : (.methodLink "ShortenPrograms" 179 ⟨"java/lang/Math", "max", "(II)I"⟩ : Cond) ∈ lw_tbl := (List.mem_append_right _ (List.mem_append_right _ (List.mem_append_left _ (List.mem_of_getElem? (i := 149) rfl))))
theorem wt_363 : (.static ⟨"java/lang/Math", "max", "(II)I"⟩ : Cond) ∈ lw_tbl := (List.mem_append_right _ (List.mem_append_right _ (List.mem_append_left _ (List.mem_of_getElem? (i := 150) rfl))))
theorem wt_364 : (.code ⟨"java/lang/Math", "max", "(II)I"⟩ prog_12_method_65_code 2 (some .int) : Cond) ∈ lw_tbl := (List.mem_append_right _ (List.mem_append_right _ (List.mem_append_left _ (List.mem_of_getElem? (i := 151) rfl))))
theorem wt_365 : (.methodLink "ShortenPrograms" 183 yW_startLeaving : Cond) ∈ lw_tbl := (List.mem_append_right _ (List.mem_append_right _ (List.mem_append_left _ (List.mem_of_getElem? (i := 152) rfl))))
theorem wt_366 : (.instanceMethod yW_startLeaving : Cond) ∈ lw_tbl := (List.mem_append_right _ (List.mem_append_right _ (List.mem_append_left _ (List.mem_of_getElem? (i := 153) rfl))))
theorem wt_367 : (.selects "ShortenPrograms$Walk" yW_startLeaving yW_startLeaving : Cond) ∈ lw_tbl := (List.mem_append_right _ (List.mem_append_right _ (List.mem_append_left _ (List.mem_of_getElem? (i := 154) rfl))))
theorem wt_368 : (.code yW_startLeaving prog_5_method_5_code 2 none : Cond) ∈ lw_tbl := (List.mem_append_right _ (List.mem_append_right _ (List.mem_append_left _ (List.mem_of_getElem? (i := 155) rfl))))
theorem wt_369 : (.methodLink "ShortenPrograms$Walk" 18 yW_startGoingThrough : Cond) ∈ lw_tbl := (List.mem_append_right _ (List.mem_append_right _ (List.mem_append_left _ (List.mem_of_getElem? (i := 156) rfl))))
theorem wt_370 : (.instanceMethod yW_startGoingThrough : Cond) ∈ lw_tbl := (List.mem_append_right _ (List.mem_append_right _ (List.mem_append_left _ (List.mem_of_getElem? (i := 158) rfl))))
theorem wt_371 : (.code yW_startGoingThrough prog_5_method_6_code 2 none : Cond) ∈ lw_tbl := (List.mem_append_right _ (List.mem_append_right _ (List.mem_append_left _ (List.mem_of_getElem? (i := 159) rfl))))
theorem wt_372 : (.methodLink "ShortenPrograms" 118 yS_take : Cond) ∈ lw_tbl := (List.mem_append_right _ (List.mem_append_right _ (List.mem_append_left _ (List.mem_of_getElem? (i := 160) rfl))))
theorem wt_373 : (.instanceMethod yS_take : Cond) ∈ lw_tbl := (List.mem_append_right _ (List.mem_append_right _ (List.mem_append_left _ (List.mem_of_getElem? (i := 162) rfl))))
theorem wt_374 : (.code yS_take prog_1_method_14_code 3 none : Cond) ∈ lw_tbl := (List.mem_append_right _ (List.mem_append_right _ (List.mem_append_left _ (List.mem_of_getElem? (i := 163) rfl))))
theorem wt_375 : (.methodLink "ShortenPrograms" 186 yW_passOver : Cond) ∈ lw_tbl := (List.mem_append_right _ (List.mem_append_right _ (List.mem_append_left _ (List.mem_of_getElem? (i := 164) rfl))))
theorem wt_376 : (.instanceMethod yW_passOver : Cond) ∈ lw_tbl := (List.mem_append_right _ (List.mem_append_right _ (List.mem_append_left _ (List.mem_of_getElem? (i := 165) rfl))))
theorem wt_377 : (.selects "ShortenPrograms$Walk" yW_passOver yW_passOver : Cond) ∈ lw_tbl := (List.mem_append_right _ (List.mem_append_right _ (List.mem_append_left _ (List.mem_of_getElem? (i := 166) rfl))))
theorem wt_378 : (.code yW_passOver prog_5_method_14_code 1 none : Cond) ∈ lw_tbl := (List.mem_append_right _ (List.mem_append_right _ (List.mem_append_left _ (List.mem_of_getElem? (i := 167) rfl))))
theorem wt_379 : (.methodLink "ShortenPrograms$Walk" 79 yW_nextByte : Cond) ∈ lw_tbl := (List.mem_append_right _ (List.mem_append_right _ (List.mem_append_left _ (List.mem_of_getElem? (i := 168) rfl))))
theorem wt_380 : (.instanceMethod yW_nextByte : Cond) ∈ lw_tbl := (List.mem_append_right _ (List.mem_append_right _ (List.mem_append_left _ (List.mem_of_getElem? (i := 170) rfl))))
theorem wt_381 : (.code yW_nextByte prog_5_method_15_code 1 none : Cond) ∈ lw_tbl := (List.mem_append_right _ (List.mem_append_right _ (List.mem_append_left _ (List.mem_of_getElem? (i := 171) rfl))))
theorem wt_382 : (.methodLink "ShortenPrograms" 189 yW_change : Cond) ∈ lw_tbl := (List.mem_append_right _ (List.mem_append_right _ (List.mem_append_left _ (List.mem_of_getElem? (i := 172) rfl))))
theorem wt_383 : (.instanceMethod yW_change : Cond) ∈ lw_tbl := (List.mem_append_right _ (List.mem_append_right _ (List.mem_append_left _ (List.mem_of_getElem? (i := 173) rfl))))
theorem wt_384 : (.selects "ShortenPrograms$Walk" yW_change yW_change : Cond) ∈ lw_tbl := (List.mem_append_right _ (List.mem_append_right _ (List.mem_append_left _ (List.mem_of_getElem? (i := 174) rfl))))
theorem wt_385 : (.code yW_change prog_5_method_12_code 3 none : Cond) ∈ lw_tbl := (List.mem_append_right _ (List.mem_append_right _ (List.mem_append_left _ (List.mem_of_getElem? (i := 175) rfl))))
theorem wt_386 : (.methodLink "ShortenPrograms$Walk" 71 yP_leaveOut : Cond) ∈ lw_tbl := (List.mem_append_right _ (List.mem_append_right _ (List.mem_append_left _ (List.mem_of_getElem? (i := 176) rfl))))
theorem wt_387 : (.instanceMethod yP_leaveOut : Cond) ∈ lw_tbl := (List.mem_append_right _ (List.mem_append_right _ (List.mem_append_left _ (List.mem_of_getElem? (i := 177) rfl))))
theorem wt_388 : (.selects "ShortenPrograms$Program" yP_leaveOut yP_leaveOut : Cond) ∈ lw_tbl := (List.mem_append_right _ (List.mem_append_right _ (List.mem_append_left _ (List.mem_of_getElem? (i := 178) rfl))))
theorem wt_389 : (.code yP_leaveOut prog_4_method_10_code 5 none : Cond) ∈ lw_tbl := (List.mem_append_right _ (List.mem_append_right _ (List.mem_append_left _ (List.mem_of_getElem? (i := 179) rfl))))
theorem wt_390 : (.methodLink "ShortenPrograms$Walk" 51 yP_byteOf : Cond) ∈ lw_tbl := (List.mem_append_right _ (List.mem_append_right _ (List.mem_append_left _ (List.mem_of_getElem? (i := 180) rfl))))
theorem wt_391 : (.instanceMethod yP_byteOf : Cond) ∈ lw_tbl := (List.mem_append_right _ (List.mem_append_right _ (List.mem_append_left _ (List.mem_of_getElem? (i := 181) rfl))))
theorem wt_392 : (.selects "ShortenPrograms$Program" yP_byteOf yP_byteOf : Cond) ∈ lw_tbl := (List.mem_append_right _ (List.mem_append_right _ (List.mem_append_left _ (List.mem_of_getElem? (i := 182) rfl))))
theorem wt_393 : (.code yP_byteOf prog_4_method_11_code 3 (some .int) : Cond) ∈ lw_tbl := (List.mem_append_right _ (List.mem_append_right _ (List.mem_append_left _ (List.mem_of_getElem? (i := 183) rfl))))
theorem wt_394 : (.methodLink "ShortenPrograms$Program" 32 yP_word : Cond) ∈ lw_tbl := (List.mem_append_right _ (List.mem_append_right _ (List.mem_append_left _ (List.mem_of_getElem? (i := 184) rfl))))
theorem wt_395 : (.methodLink "ShortenPrograms$Program" 36 yP_shift : Cond) ∈ lw_tbl := (List.mem_append_right _ (List.mem_append_right _ (List.mem_append_left _ (List.mem_of_getElem? (i := 185) rfl))))
theorem wt_396 : (.static yP_shift : Cond) ∈ lw_tbl := (List.mem_append_right _ (List.mem_append_right _ (List.mem_append_left _ (List.mem_of_getElem? (i := 186) rfl))))
theorem wt_397 : (.code yP_shift prog_4_method_13_code 1 (some .int) : Cond) ∈ lw_tbl := (List.mem_append_right _ (List.mem_append_right _ (List.mem_append_left _ (List.mem_of_getElem? (i := 187) rfl))))
theorem wt_398 : (.methodLink "ShortenPrograms$Walk" 67 yW_lowerValue : Cond) ∈ lw_tbl := (List.mem_append_right _ (List.mem_append_right _ (List.mem_append_left _ (List.mem_of_getElem? (i := 188) rfl))))
theorem wt_399 : (.instanceMethod yW_lowerValue : Cond) ∈ lw_tbl := (List.mem_append_right _ (List.mem_append_right _ (List.mem_append_left _ (List.mem_of_getElem? (i := 190) rfl))))
theorem wt_400 : (.code yW_lowerValue prog_5_method_11_code 2 (some .int) : Cond) ∈ lw_tbl := (List.mem_append_right _ (List.mem_append_right _ (List.mem_append_left _ (List.mem_of_getElem? (i := 191) rfl))))
theorem wt_401 : (.methodLink "ShortenPrograms$Walk" 75 yP_setByte : Cond) ∈ lw_tbl := (List.mem_append_right _ (List.mem_append_right _ (List.mem_append_left _ (List.mem_of_getElem? (i := 192) rfl))))
theorem wt_402 : (.instanceMethod yP_setByte : Cond) ∈ lw_tbl := (List.mem_append_right _ (List.mem_append_right _ (List.mem_append_left _ (List.mem_of_getElem? (i := 193) rfl))))
theorem wt_403 : (.selects "ShortenPrograms$Program" yP_setByte yP_setByte : Cond) ∈ lw_tbl := (List.mem_append_right _ (List.mem_append_right _ (List.mem_append_left _ (List.mem_of_getElem? (i := 194) rfl))))
theorem wt_404 : (.code yP_setByte prog_4_method_12_code 5 none : Cond) ∈ lw_tbl := (List.mem_append_right _ (List.mem_append_right _ (List.mem_append_left _ (List.mem_of_getElem? (i := 195) rfl))))
theorem wt_405 : (.methodLink "ShortenPrograms" 192 yW_isLowering : Cond) ∈ lw_tbl := (List.mem_append_right _ (List.mem_append_right _ (List.mem_append_left _ (List.mem_of_getElem? (i := 196) rfl))))
theorem wt_406 : (.instanceMethod yW_isLowering : Cond) ∈ lw_tbl := (List.mem_append_right _ (List.mem_append_right _ (List.mem_append_left _ (List.mem_of_getElem? (i := 197) rfl))))
theorem wt_407 : (.selects "ShortenPrograms$Walk" yW_isLowering yW_isLowering : Cond) ∈ lw_tbl := (List.mem_append_right _ (List.mem_append_right _ (List.mem_append_left _ (List.mem_of_getElem? (i := 198) rfl))))
theorem wt_408 : (.code yW_isLowering prog_5_method_3_code 1 (some .boolean) : Cond) ∈ lw_tbl := (List.mem_append_right _ (List.mem_append_right _ (List.mem_append_left _ (List.mem_of_getElem? (i := 199) rfl))))
theorem wt_409 : (.methodLink "ShortenPrograms" 195 yW_goOn : Cond) ∈ lw_tbl := (List.mem_append_right _ (List.mem_append_right _ (List.mem_append_left _ (List.mem_of_getElem? (i := 200) rfl))))
theorem wt_410 : (.instanceMethod yW_goOn : Cond) ∈ lw_tbl := (List.mem_append_right _ (List.mem_append_right _ (List.mem_append_left _ (List.mem_of_getElem? (i := 201) rfl))))
theorem wt_411 : (.selects "ShortenPrograms$Walk" yW_goOn yW_goOn : Cond) ∈ lw_tbl := (List.mem_append_right _ (List.mem_append_right _ (List.mem_append_left _ (List.mem_of_getElem? (i := 202) rfl))))
theorem wt_412 : (.code yW_goOn prog_5_method_13_code 1 none : Cond) ∈ lw_tbl := (List.mem_append_right _ (List.mem_append_right _ (List.mem_append_left _ (List.mem_of_getElem? (i := 203) rfl))))
theorem wt_413 : (.methodLink "ShortenPrograms" 121 yS_askNext : Cond) ∈ lw_tbl := (List.mem_append_right _ (List.mem_append_right _ (List.mem_append_left _ (List.mem_of_getElem? (i := 204) rfl))))
theorem wt_414 : (.instanceMethod yS_askNext : Cond) ∈ lw_tbl := (List.mem_append_right _ (List.mem_append_right _ (List.mem_append_left _ (List.mem_of_getElem? (i := 206) rfl))))
theorem wt_415 : (.code yS_askNext prog_1_method_15_code 3 none : Cond) ∈ lw_tbl := (List.mem_append_right _ (List.mem_append_right _ (List.mem_append_left _ (List.mem_of_getElem? (i := 207) rfl))))
theorem wt_416 : (.constant "ShortenPrograms" 198 (1000000) : Cond) ∈ lw_tbl := (List.mem_append_right _ (List.mem_append_right _ (List.mem_append_left _ (List.mem_of_getElem? (i := 208) rfl))))
theorem wt_417 : (.methodLink "ShortenPrograms" 199 yW_findChange : Cond) ∈ lw_tbl := (List.mem_append_right _ (List.mem_append_right _ (List.mem_append_left _ (List.mem_of_getElem? (i := 209) rfl))))
theorem wt_418 : (.instanceMethod yW_findChange : Cond) ∈ lw_tbl := (List.mem_append_right _ (List.mem_append_right _ (List.mem_append_left _ (List.mem_of_getElem? (i := 210) rfl))))
theorem wt_419 : (.selects "ShortenPrograms$Walk" yW_findChange yW_findChange : Cond) ∈ lw_tbl := (List.mem_append_right _ (List.mem_append_right _ (List.mem_append_left _ (List.mem_of_getElem? (i := 211) rfl))))
theorem wt_420 : (.code yW_findChange prog_5_method_8_code 3 (some .boolean) : Cond) ∈ lw_tbl := (List.mem_append_right _ (List.mem_append_right _ (List.mem_append_left _ (List.mem_of_getElem? (i := 212) rfl))))
theorem wt_421 : (.constant "ShortenPrograms$Walk" 41 (1000000) : Cond) ∈ lw_tbl := (List.mem_append_right _ (List.mem_append_right _ (List.mem_append_left _ (List.mem_of_getElem? (i := 213) rfl))))
theorem wt_422 : (.methodLink "ShortenPrograms$Walk" 42 yP_has : Cond) ∈ lw_tbl := (List.mem_append_right _ (List.mem_append_right _ (List.mem_append_left _ (List.mem_of_getElem? (i := 214) rfl))))
theorem wt_423 : (.methodLink "ShortenPrograms$Walk" 48 yW_endGoingThrough : Cond) ∈ lw_tbl := (List.mem_append_right _ (List.mem_append_right _ (List.mem_append_left _ (List.mem_of_getElem? (i := 215) rfl))))
theorem wt_424 : (.instanceMethod yW_endGoingThrough : Cond) ∈ lw_tbl := (List.mem_append_right _ (List.mem_append_right _ (List.mem_append_left _ (List.mem_of_getElem? (i := 217) rfl))))
theorem wt_425 : (.code yW_endGoingThrough prog_5_method_9_code 1 none : Cond) ∈ lw_tbl := (List.mem_append_right _ (List.mem_append_right _ (List.mem_append_left _ (List.mem_of_getElem? (i := 218) rfl))))
theorem wt_426 : (.methodLink "ShortenPrograms$Walk" 64 yW_startLowering : Cond) ∈ lw_tbl := (List.mem_append_right _ (List.mem_append_right _ (List.mem_append_left _ (List.mem_of_getElem? (i := 219) rfl))))
theorem wt_427 : (.instanceMethod yW_startLowering : Cond) ∈ lw_tbl := (List.mem_append_right _ (List.mem_append_right _ (List.mem_append_left _ (List.mem_of_getElem? (i := 221) rfl))))
theorem wt_428 : (.code yW_startLowering prog_5_method_7_code 1 none : Cond) ∈ lw_tbl := (List.mem_append_right _ (List.mem_append_right _ (List.mem_append_left _ (List.mem_of_getElem? (i := 222) rfl))))
theorem wt_429 : (.methodLink "ShortenPrograms$Walk" 55 yW_canLower : Cond) ∈ lw_tbl := (List.mem_append_right _ (List.mem_append_right _ (List.mem_append_left _ (List.mem_of_getElem? (i := 223) rfl))))
theorem wt_430 : (.instanceMethod yW_canLower : Cond) ∈ lw_tbl := (List.mem_append_right _ (List.mem_append_right _ (List.mem_append_left _ (List.mem_of_getElem? (i := 225) rfl))))
theorem wt_431 : (.code yW_canLower prog_5_method_10_code 2 (some .boolean) : Cond) ∈ lw_tbl := (List.mem_append_right _ (List.mem_append_right _ (List.mem_append_left _ (List.mem_of_getElem? (i := 226) rfl))))
theorem wt_432 : (.methodLink "ShortenPrograms$Walk" 58 yW_passOver : Cond) ∈ lw_tbl := (List.mem_append_right _ (List.mem_append_right _ (List.mem_append_left _ (List.mem_of_getElem? (i := 227) rfl))))
theorem wt_433 : (.methodLink "ShortenPrograms$Walk" 61 yW_startLeaving : Cond) ∈ lw_tbl := (List.mem_append_right _ (List.mem_append_right _ (List.mem_append_left _ (List.mem_of_getElem? (i := 228) rfl))))
theorem wt_434 : (.methodLink "ShortenPrograms" 135 yP_copy : Cond) ∈ lw_tbl := (List.mem_append_right _ (List.mem_append_right _ (List.mem_append_left _ (List.mem_of_getElem? (i := 229) rfl))))
theorem wt_435 : (.methodLink "ShortenPrograms" 146 yM_find : Cond) ∈ lw_tbl := (List.mem_append_right _ (List.mem_append_right _ (List.mem_append_left _ (List.mem_of_getElem? (i := 230) rfl))))
theorem wt_436 : (.instanceMethod yM_find : Cond) ∈ lw_tbl := (List.mem_append_right _ (List.mem_append_right _ (List.mem_append_left _ (List.mem_of_getElem? (i := 231) rfl))))
theorem wt_437 : (.selects "ShortenPrograms$Memory" yM_find yM_find : Cond) ∈ lw_tbl := (List.mem_append_right _ (List.mem_append_right _ (List.mem_append_left _ (List.mem_of_getElem? (i := 232) rfl))))
theorem wt_438 : (.code yM_find prog_3_method_6_code 5 (some (.object "ShortenPrograms$Ask")) : Cond) ∈ lw_tbl := (List.mem_append_right _ (List.mem_append_right _ (List.mem_append_left _ (List.mem_of_getElem? (i := 233) rfl))))
theorem wt_439 : (.methodLink "ShortenPrograms$Memory" 26 yP_mark : Cond) ∈ lw_tbl := (List.mem_append_right _ (List.mem_append_right _ (List.mem_append_left _ (List.mem_of_getElem? (i := 234) rfl))))
theorem wt_440 : (.methodLink "ShortenPrograms$Memory" 32 yA_isOf : Cond) ∈ lw_tbl := (List.mem_append_right _ (List.mem_append_right _ (List.mem_append_left _ (List.mem_of_getElem? (i := 235) rfl))))
theorem wt_441 : (.instanceMethod yA_isOf : Cond) ∈ lw_tbl := (List.mem_append_right _ (List.mem_append_right _ (List.mem_append_left _ (List.mem_of_getElem? (i := 236) rfl))))
theorem wt_442 : (.selects "ShortenPrograms$Ask" yA_isOf yA_isOf : Cond) ∈ lw_tbl := (List.mem_append_right _ (List.mem_append_right _ (List.mem_append_left _ (List.mem_of_getElem? (i := 237) rfl))))
theorem wt_443 : (.code yA_isOf prog_2_method_6_code 3 (some .boolean) : Cond) ∈ lw_tbl := (List.mem_append_right _ (List.mem_append_right _ (List.mem_append_left _ (List.mem_of_getElem? (i := 238) rfl))))
theorem wt_444 : (.methodLink "ShortenPrograms$Ask" 32 yP_hasSameWords : Cond) ∈ lw_tbl := (List.mem_append_right _ (List.mem_append_right _ (List.mem_append_left _ (List.mem_of_getElem? (i := 239) rfl))))
theorem wt_445 : (.instanceMethod yP_hasSameWords : Cond) ∈ lw_tbl := (List.mem_append_right _ (List.mem_append_right _ (List.mem_append_right _ (List.mem_append_left _ (List.mem_of_getElem? (i := 0) rfl)))))
theorem wt_446 : (.selects "ShortenPrograms$Program" yP_hasSameWords yP_hasSameWords : Cond) ∈ lw_tbl := (List.mem_append_right _ (List.mem_append_right _ (List.mem_append_right _ (List.mem_append_left _ (List.mem_of_getElem? (i := 1) rfl)))))
theorem wt_447 : (.code yP_hasSameWords prog_4_method_14_code 3 (some .boolean) : Cond) ∈ lw_tbl := (List.mem_append_right _ (List.mem_append_right _ (List.mem_append_right _ (List.mem_append_left _ (List.mem_of_getElem? (i := 2) rfl)))))
theorem wt_448 : (.methodLink "ShortenPrograms" 203 yS_ask : Cond) ∈ lw_tbl := (List.mem_append_right _ (List.mem_append_right _ (List.mem_append_right _ (List.mem_append_left _ (List.mem_of_getElem? (i := 3) rfl)))))
theorem wt_449 : (.instanceMethod yS_ask : Cond) ∈ lw_tbl := (List.mem_append_right _ (List.mem_append_right _ (List.mem_append_right _ (List.mem_append_left _ (List.mem_of_getElem? (i := 5) rfl)))))
theorem wt_450 : (.code yS_ask prog_1_method_16_code 1 none : Cond) ∈ lw_tbl := (List.mem_append_right _ (List.mem_append_right _ (List.mem_append_right _ (List.mem_append_left _ (List.mem_of_getElem? (i := 6) rfl)))))
theorem wt_451 : (.methodLink "ShortenPrograms" 150 yA_answer : Cond) ∈ lw_tbl := (List.mem_append_right _ (List.mem_append_right _ (List.mem_append_right _ (List.mem_append_left _ (List.mem_of_getElem? (i := 7) rfl)))))
theorem wt_452 : (.instanceMethod yA_answer : Cond) ∈ lw_tbl := (List.mem_append_right _ (List.mem_append_right _ (List.mem_append_right _ (List.mem_append_left _ (List.mem_of_getElem? (i := 8) rfl)))))
theorem wt_453 : (.selects "ShortenPrograms$Ask" yA_answer yA_answer : Cond) ∈ lw_tbl := (List.mem_append_right _ (List.mem_append_right _ (List.mem_append_right _ (List.mem_append_left _ (List.mem_of_getElem? (i := 9) rfl)))))
theorem wt_454 : (.code yA_answer prog_2_method_3_code 1 (some .int) : Cond) ∈ lw_tbl := (List.mem_append_right _ (List.mem_append_right _ (List.mem_append_right _ (List.mem_append_left _ (List.mem_of_getElem? (i := 10) rfl)))))
theorem wt_455 : (.methodLink "ShortenProgramsLaw" 77 yL_at : Cond) ∈ lw_tbl := (List.mem_append_right _ (List.mem_append_right _ (List.mem_append_right _ (List.mem_append_left _ (List.mem_of_getElem? (i := 11) rfl)))))
theorem wt_456 : (.static yL_at : Cond) ∈ lw_tbl := (List.mem_append_right _ (List.mem_append_right _ (List.mem_append_right _ (List.mem_append_left _ (List.mem_of_getElem? (i := 12) rfl)))))
theorem wt_457 : (.codeWith yL_at method_8_code 4 (some .int) [(0, 9, 12, 23)] : Cond) ∈ lw_tbl := (List.mem_append_right _ (List.mem_append_right _ (List.mem_append_right _ (List.mem_append_left _ (List.mem_of_getElem? (i := 13) rfl)))))
theorem wt_458 : (.methodLink "ShortenProgramsLaw" 34 yS_at : Cond) ∈ lw_tbl := (List.mem_append_right _ (List.mem_append_right _ (List.mem_append_right _ (List.mem_append_left _ (List.mem_of_getElem? (i := 14) rfl)))))
theorem wt_459 : (.instanceMethod yS_at : Cond) ∈ lw_tbl := (List.mem_append_right _ (List.mem_append_right _ (List.mem_append_right _ (List.mem_append_left _ (List.mem_of_getElem? (i := 15) rfl)))))
theorem wt_460 : (.selects "ShortenPrograms" yS_at yS_at : Cond) ∈ lw_tbl := (List.mem_append_right _ (List.mem_append_right _ (List.mem_append_right _ (List.mem_append_left _ (List.mem_of_getElem? (i := 16) rfl)))))
theorem wt_461 : (.code yS_at prog_1_method_7_code 2 (some .int) : Cond) ∈ lw_tbl := (List.mem_append_right _ (List.mem_append_right _ (List.mem_append_right _ (List.mem_append_left _ (List.mem_of_getElem? (i := 17) rfl)))))
theorem wt_462 : (.methodLink "ShortenProgramsLaw" 80 yL_from : Cond) ∈ lw_tbl := (List.mem_append_right _ (List.mem_append_right _ (List.mem_append_right _ (List.mem_append_left _ (List.mem_of_getElem? (i := 19) rfl)))))
theorem wt_463 : (.static yL_from : Cond) ∈ lw_tbl := (List.mem_append_right _ (List.mem_append_right _ (List.mem_append_right _ (List.mem_append_left _ (List.mem_of_getElem? (i := 20) rfl)))))
theorem wt_464 : (.codeWith yL_from method_9_code 4 (some .int) [(0, 9, 12, 23)] : Cond) ∈ lw_tbl := (List.mem_append_right _ (List.mem_append_right _ (List.mem_append_right _ (List.mem_append_left _ (List.mem_of_getElem? (i := 21) rfl)))))
theorem wt_465 : (.methodLink "ShortenProgramsLaw" 37 yS_from : Cond) ∈ lw_tbl := (List.mem_append_right _ (List.mem_append_right _ (List.mem_append_right _ (List.mem_append_left _ (List.mem_of_getElem? (i := 22) rfl)))))
theorem wt_466 : (.instanceMethod yS_from : Cond) ∈ lw_tbl := (List.mem_append_right _ (List.mem_append_right _ (List.mem_append_right _ (List.mem_append_left _ (List.mem_of_getElem? (i := 23) rfl)))))
theorem wt_467 : (.selects "ShortenPrograms" yS_from yS_from : Cond) ∈ lw_tbl := (List.mem_append_right _ (List.mem_append_right _ (List.mem_append_right _ (List.mem_append_left _ (List.mem_of_getElem? (i := 24) rfl)))))
theorem wt_468 : (.code yS_from prog_1_method_8_code 2 (some .int) : Cond) ∈ lw_tbl := (List.mem_append_right _ (List.mem_append_right _ (List.mem_append_right _ (List.mem_append_left _ (List.mem_of_getElem? (i := 25) rfl)))))
theorem wt_469 : (.methodLink "ShortenPrograms" 126 yP_origin : Cond) ∈ lw_tbl := (List.mem_append_right _ (List.mem_append_right _ (List.mem_append_right _ (List.mem_append_left _ (List.mem_of_getElem? (i := 26) rfl)))))
theorem wt_470 : (.instanceMethod yP_origin : Cond) ∈ lw_tbl := (List.mem_append_right _ (List.mem_append_right _ (List.mem_append_right _ (List.mem_append_left _ (List.mem_of_getElem? (i := 27) rfl)))))
theorem wt_471 : (.selects "ShortenPrograms$Program" yP_origin yP_origin : Cond) ∈ lw_tbl := (List.mem_append_right _ (List.mem_append_right _ (List.mem_append_right _ (List.mem_append_left _ (List.mem_of_getElem? (i := 28) rfl)))))
theorem wt_472 : (.code yP_origin prog_4_method_6_code 2 (some .int) : Cond) ∈ lw_tbl := (List.mem_append_right _ (List.mem_append_right _ (List.mem_append_right _ (List.mem_append_left _ (List.mem_of_getElem? (i := 29) rfl)))))
theorem wt_473 : (.methodLink "ShortenProgramsLaw" 83 yL_known : Cond) ∈ lw_tbl := (List.mem_append_right _ (List.mem_append_right _ (List.mem_append_right _ (List.mem_append_left _ (List.mem_of_getElem? (i := 30) rfl)))))
theorem wt_474 : (.static yL_known : Cond) ∈ lw_tbl := (List.mem_append_right _ (List.mem_append_right _ (List.mem_append_right _ (List.mem_append_left _ (List.mem_of_getElem? (i := 31) rfl)))))
theorem wt_475 : (.codeWith yL_known method_10_code 7 (some .int) [(0, 14, 17, 23), (0, 14, 21, 32)] : Cond) ∈ lw_tbl := (List.mem_append_right _ (List.mem_append_right _ (List.mem_append_right _ (List.mem_append_left _ (List.mem_of_getElem? (i := 32) rfl)))))
theorem wt_476 : (.methodLink "ShortenProgramsLaw" 40 yS_known : Cond) ∈ lw_tbl := (List.mem_append_right _ (List.mem_append_right _ (List.mem_append_right _ (List.mem_append_left _ (List.mem_of_getElem? (i := 33) rfl)))))
theorem wt_477 : (.instanceMethod yS_known : Cond) ∈ lw_tbl := (List.mem_append_right _ (List.mem_append_right _ (List.mem_append_right _ (List.mem_append_left _ (List.mem_of_getElem? (i := 34) rfl)))))
theorem wt_478 : (.selects "ShortenPrograms" yS_known yS_known : Cond) ∈ lw_tbl := (List.mem_append_right _ (List.mem_append_right _ (List.mem_append_right _ (List.mem_append_left _ (List.mem_of_getElem? (i := 35) rfl)))))
theorem wt_479 : (.code yS_known prog_1_method_9_code 6 (some .int) : Cond) ∈ lw_tbl := (List.mem_append_right _ (List.mem_append_right _ (List.mem_append_right _ (List.mem_append_left _ (List.mem_of_getElem? (i := 36) rfl)))))
theorem wt_480 : (.methodLink "ShortenPrograms" 138 yP_leaveOut : Cond) ∈ lw_tbl := (List.mem_append_right _ (List.mem_append_right _ (List.mem_append_right _ (List.mem_append_left _ (List.mem_of_getElem? (i := 40) rfl)))))
theorem wt_481 : (.methodLink "ShortenPrograms" 142 yP_setByte : Cond) ∈ lw_tbl := (List.mem_append_right _ (List.mem_append_right _ (List.mem_append_right _ (List.mem_append_left _ (List.mem_of_getElem? (i := 41) rfl)))))
theorem wt_482 : (.classLink "ShortenProgramsLaw" 53 "ShortenProgramsModel" : Cond) ∈ lw_tbl := (List.mem_append_right _ (List.mem_append_right _ (List.mem_append_right _ (List.mem_append_left _ (List.mem_of_getElem? (i := 42) rfl)))))
theorem wt_483 : (.instantiable "ShortenProgramsModel" 27 : Cond) ∈ lw_tbl := (List.mem_append_right _ (List.mem_append_right _ (List.mem_append_right _ (List.mem_append_left _ (List.mem_of_getElem? (i := 43) rfl)))))
theorem wt_484 : (.methodLink "ShortenProgramsLaw" 55 yD_init : Cond) ∈ lw_tbl := (List.mem_append_right _ (List.mem_append_right _ (List.mem_append_right _ (List.mem_append_left _ (List.mem_of_getElem? (i := 44) rfl)))))
theorem wt_485 : (.instanceMethod yD_init : Cond) ∈ lw_tbl := (List.mem_append_right _ (List.mem_append_right _ (List.mem_append_right _ (List.mem_append_left _ (List.mem_of_getElem? (i := 45) rfl)))))
theorem wt_486 : (.code yD_init prog_7_method_1_code 3 none : Cond) ∈ lw_tbl := (List.mem_append_right _ (List.mem_append_right _ (List.mem_append_right _ (List.mem_append_left _ (List.mem_of_getElem? (i := 46) rfl)))))
theorem wt_487 : (.methodLink "ShortenProgramsModel" 1 ⟨"java/lang/Object", "<init>", "()V"⟩ : Cond) ∈ lw_tbl := (List.mem_append_right _ (List.mem_append_right _ (List.mem_append_right _ (List.mem_append_left _ (List.mem_of_getElem? (i := 47) rfl)))))
theorem wt_488 : (.fieldLink "ShortenProgramsModel" 35 "ShortenProgramsModel" "thrown" "I" : Cond) ∈ lw_tbl := (List.mem_append_right _ (List.mem_append_right _ (List.mem_append_right _ (List.mem_append_left _ (List.mem_of_getElem? (i := 48) rfl)))))
theorem wt_489 : (.fieldLink "ShortenProgramsModel" 32 "ShortenProgramsModel" "budget" "I" : Cond) ∈ lw_tbl := (List.mem_append_right _ (List.mem_append_right _ (List.mem_append_right _ (List.mem_append_left _ (List.mem_of_getElem? (i := 49) rfl)))))
theorem wt_490 : (.fieldLink "ShortenProgramsModel" 38 "ShortenProgramsModel" "state" "I" : Cond) ∈ lw_tbl := (List.mem_append_right _ (List.mem_append_right _ (List.mem_append_right _ (List.mem_append_left _ (List.mem_of_getElem? (i := 50) rfl)))))
theorem wt_491 : (.fieldLink "ShortenProgramsModel" 41 "ShortenProgramsModel" "size" "I" : Cond) ∈ lw_tbl := (List.mem_append_right _ (List.mem_append_right _ (List.mem_append_right _ (List.mem_append_left _ (List.mem_of_getElem? (i := 51) rfl)))))
theorem wt_492 : (.fieldLink "ShortenProgramsModel" 7 "ShortenProgramsModel" "word" "[I" : Cond) ∈ lw_tbl := (List.mem_append_right _ (List.mem_append_right _ (List.mem_append_right _ (List.mem_append_left _ (List.mem_of_getElem? (i := 52) rfl)))))
theorem wt_493 : (.fieldLink "ShortenProgramsModel" 13 "ShortenProgramsModel" "origin" "[I" : Cond) ∈ lw_tbl := (List.mem_append_right _ (List.mem_append_right _ (List.mem_append_right _ (List.mem_append_left _ (List.mem_of_getElem? (i := 53) rfl)))))
theorem wt_494 : (.fieldLink "ShortenProgramsModel" 66 "ShortenProgramsModel" "candSize" "I" : Cond) ∈ lw_tbl := (List.mem_append_right _ (List.mem_append_right _ (List.mem_append_right _ (List.mem_append_left _ (List.mem_of_getElem? (i := 54) rfl)))))
theorem wt_495 : (.fieldLink "ShortenProgramsModel" 16 "ShortenProgramsModel" "cand" "[I" : Cond) ∈ lw_tbl := (List.mem_append_right _ (List.mem_append_right _ (List.mem_append_right _ (List.mem_append_left _ (List.mem_of_getElem? (i := 55) rfl)))))
theorem wt_496 : (.fieldLink "ShortenProgramsModel" 146 "ShortenProgramsModel" "isFirst" "Z" : Cond) ∈ lw_tbl := (List.mem_append_right _ (List.mem_append_right _ (List.mem_append_right _ (List.mem_append_left _ (List.mem_of_getElem? (i := 56) rfl)))))
theorem wt_497 : (.fieldLink "ShortenProgramsModel" 86 "ShortenProgramsModel" "isLowering" "Z" : Cond) ∈ lw_tbl := (List.mem_append_right _ (List.mem_append_right _ (List.mem_append_right _ (List.mem_append_left _ (List.mem_of_getElem? (i := 57) rfl)))))
theorem wt_498 : (.fieldLink "ShortenProgramsModel" 96 "ShortenProgramsModel" "someGood" "Z" : Cond) ∈ lw_tbl := (List.mem_append_right _ (List.mem_append_right _ (List.mem_append_right _ (List.mem_append_left _ (List.mem_of_getElem? (i := 58) rfl)))))
theorem wt_499 : (.fieldLink "ShortenProgramsModel" 99 "ShortenProgramsModel" "wasLowered" "Z" : Cond) ∈ lw_tbl := (List.mem_append_right _ (List.mem_append_right _ (List.mem_append_right _ (List.mem_append_left _ (List.mem_of_getElem? (i := 59) rfl)))))
theorem wt_500 : (.fieldLink "ShortenProgramsModel" 90 "ShortenProgramsModel" "piece" "I" : Cond) ∈ lw_tbl := (List.mem_append_right _ (List.mem_append_right _ (List.mem_append_right _ (List.mem_append_left _ (List.mem_of_getElem? (i := 60) rfl)))))
theorem wt_501 : (.fieldLink "ShortenProgramsModel" 93 "ShortenProgramsModel" "place" "I" : Cond) ∈ lw_tbl := (List.mem_append_right _ (List.mem_append_right _ (List.mem_append_right _ (List.mem_append_left _ (List.mem_of_getElem? (i := 61) rfl)))))
theorem wt_502 : (.fieldLink "ShortenProgramsModel" 73 "ShortenProgramsModel" "atWord" "I" : Cond) ∈ lw_tbl := (List.mem_append_right _ (List.mem_append_right _ (List.mem_append_right _ (List.mem_append_left _ (List.mem_of_getElem? (i := 62) rfl)))))
theorem wt_503 : (.fieldLink "ShortenProgramsModel" 76 "ShortenProgramsModel" "atByte" "I" : Cond) ∈ lw_tbl := (List.mem_append_right _ (List.mem_append_right _ (List.mem_append_right _ (List.mem_append_left _ (List.mem_of_getElem? (i := 63) rfl)))))
theorem wt_504 : (.fieldLink "ShortenProgramsModel" 83 "ShortenProgramsModel" "how" "I" : Cond) ∈ lw_tbl := (List.mem_append_right _ (List.mem_append_right _ (List.mem_append_right _ (List.mem_append_left _ (List.mem_of_getElem? (i := 64) rfl)))))
theorem wt_505 : (.fieldLink "ShortenProgramsModel" 19 "ShortenProgramsModel" "difference" "I" : Cond) ∈ lw_tbl := (List.mem_append_right _ (List.mem_append_right _ (List.mem_append_right _ (List.mem_append_left _ (List.mem_of_getElem? (i := 65) rfl)))))
theorem wt_506 : (.fieldLink "ShortenProgramsModel" 48 "ShortenProgramsModel" "asks" "I" : Cond) ∈ lw_tbl := (List.mem_append_right _ (List.mem_append_right _ (List.mem_append_right _ (List.mem_append_left _ (List.mem_of_getElem? (i := 66) rfl)))))
theorem wt_507 : (.fieldLink "ShortenProgramsModel" 23 "ShortenProgramsModel" "askedSize" "[I" : Cond) ∈ lw_tbl := (List.mem_append_right _ (List.mem_append_right _ (List.mem_append_right _ (List.mem_append_left _ (List.mem_of_getElem? (i := 67) rfl)))))
theorem wt_508 : (.fieldLink "ShortenProgramsModel" 26 "ShortenProgramsModel" "askedWord" "[I" : Cond) ∈ lw_tbl := (List.mem_append_right _ (List.mem_append_right _ (List.mem_append_right _ (List.mem_append_left _ (List.mem_of_getElem? (i := 68) rfl)))))
theorem wt_509 : (.fieldLink "ShortenProgramsModel" 29 "ShortenProgramsModel" "answer" "[I" : Cond) ∈ lw_tbl := (List.mem_append_right _ (List.mem_append_right _ (List.mem_append_right _ (List.mem_append_left _ (List.mem_of_getElem? (i := 69) rfl)))))
theorem wt_510 : (.fieldLink "ShortenProgramsModel" 51 "ShortenProgramsModel" "remembered" "I" : Cond) ∈ lw_tbl := (List.mem_append_right _ (List.mem_append_right _ (List.mem_append_right _ (List.mem_append_left _ (List.mem_of_getElem? (i := 70) rfl)))))
theorem wt_511 : (.fieldLink "ShortenProgramsModel" 54 "ShortenProgramsModel" "good" "I" : Cond) ∈ lw_tbl := (List.mem_append_right _ (List.mem_append_right _ (List.mem_append_right _ (List.mem_append_left _ (List.mem_of_getElem? (i := 71) rfl)))))
theorem wt_512 : (.fieldLink "ShortenProgramsModel" 57 "ShortenProgramsModel" "leftOut" "I" : Cond) ∈ lw_tbl := (List.mem_append_right _ (List.mem_append_right _ (List.mem_append_right _ (List.mem_append_left _ (List.mem_of_getElem? (i := 72) rfl)))))
theorem wt_513 : (.fieldLink "ShortenProgramsModel" 60 "ShortenProgramsModel" "lowered" "I" : Cond) ∈ lw_tbl := (List.mem_append_right _ (List.mem_append_right _ (List.mem_append_right _ (List.mem_append_left _ (List.mem_of_getElem? (i := 73) rfl)))))
theorem wt_514 : (.fieldLink "ShortenProgramsModel" 63 "ShortenProgramsModel" "begun" "I" : Cond) ∈ lw_tbl := (List.mem_append_right _ (List.mem_append_right _ (List.mem_append_right _ (List.mem_append_left _ (List.mem_of_getElem? (i := 74) rfl)))))
theorem wt_515 : (.lays "ShortenProgramsModel" "ShortenProgramsModel" "thrown" "I" : Cond) ∈ lw_tbl := (List.mem_append_right _ (List.mem_append_right _ (List.mem_append_right _ (List.mem_append_left _ (List.mem_of_getElem? (i := 75) rfl)))))
theorem wt_516 : (.soleField "ShortenProgramsModel" "thrown" : Cond) ∈ lw_tbl := (List.mem_append_right _ (List.mem_append_right _ (List.mem_append_right _ (List.mem_append_left _ (List.mem_of_getElem? (i := 76) rfl)))))
theorem wt_517 : (.laysFinal "ShortenProgramsModel" "ShortenProgramsModel" "budget" "I" : Cond) ∈ lw_tbl := (List.mem_append_right _ (List.mem_append_right _ (List.mem_append_right _ (List.mem_append_left _ (List.mem_of_getElem? (i := 77) rfl)))))
theorem wt_518 : (.soleField "ShortenProgramsModel" "budget" : Cond) ∈ lw_tbl := (List.mem_append_right _ (List.mem_append_right _ (List.mem_append_right _ (List.mem_append_left _ (List.mem_of_getElem? (i := 78) rfl)))))
theorem wt_519 : (.lays "ShortenProgramsModel" "ShortenProgramsModel" "state" "I" : Cond) ∈ lw_tbl := (List.mem_append_right _ (List.mem_append_right _ (List.mem_append_right _ (List.mem_append_left _ (List.mem_of_getElem? (i := 79) rfl)))))
theorem wt_520 : (.soleField "ShortenProgramsModel" "state" : Cond) ∈ lw_tbl := (List.mem_append_right _ (List.mem_append_right _ (List.mem_append_right _ (List.mem_append_left _ (List.mem_of_getElem? (i := 80) rfl)))))
theorem wt_521 : (.lays "ShortenProgramsModel" "ShortenProgramsModel" "size" "I" : Cond) ∈ lw_tbl := (List.mem_append_right _ (List.mem_append_right _ (List.mem_append_right _ (List.mem_append_left _ (List.mem_of_getElem? (i := 81) rfl)))))
theorem wt_522 : (.soleField "ShortenProgramsModel" "size" : Cond) ∈ lw_tbl := (List.mem_append_right _ (List.mem_append_right _ (List.mem_append_right _ (List.mem_append_left _ (List.mem_of_getElem? (i := 82) rfl)))))
theorem wt_523 : (.laysFinal "ShortenProgramsModel" "ShortenProgramsModel" "word" "[I" : Cond) ∈ lw_tbl := (List.mem_append_right _ (List.mem_append_right _ (List.mem_append_right _ (List.mem_append_left _ (List.mem_of_getElem? (i := 83) rfl)))))
theorem wt_524 : (.soleField "ShortenProgramsModel" "word" : Cond) ∈ lw_tbl := (List.mem_append_right _ (List.mem_append_right _ (List.mem_append_right _ (List.mem_append_left _ (List.mem_of_getElem? (i := 84) rfl)))))
theorem wt_525 : (.laysFinal "ShortenProgramsModel" "ShortenProgramsModel" "origin" "[I" : Cond) ∈ lw_tbl := (List.mem_append_right _ (List.mem_append_right _ (List.mem_append_right _ (List.mem_append_left _ (List.mem_of_getElem? (i := 85) rfl)))))
theorem wt_526 : (.soleField "ShortenProgramsModel" "origin" : Cond) ∈ lw_tbl := (List.mem_append_right _ (List.mem_append_right _ (List.mem_append_right _ (List.mem_append_left _ (List.mem_of_getElem? (i := 86) rfl)))))
theorem wt_527 : (.lays "ShortenProgramsModel" "ShortenProgramsModel" "candSize" "I" : Cond) ∈ lw_tbl := (List.mem_append_right _ (List.mem_append_right _ (List.mem_append_right _ (List.mem_append_left _ (List.mem_of_getElem? (i := 87) rfl)))))
theorem wt_528 : (.soleField "ShortenProgramsModel" "candSize" : Cond) ∈ lw_tbl := (List.mem_append_right _ (List.mem_append_right _ (List.mem_append_right _ (List.mem_append_left _ (List.mem_of_getElem? (i := 88) rfl)))))
theorem wt_529 : (.laysFinal "ShortenProgramsModel" "ShortenProgramsModel" "cand" "[I" : Cond) ∈ lw_tbl := (List.mem_append_right _ (List.mem_append_right _ (List.mem_append_right _ (List.mem_append_left _ (List.mem_of_getElem? (i := 89) rfl)))))
theorem wt_530 : (.soleField "ShortenProgramsModel" "cand" : Cond) ∈ lw_tbl := (List.mem_append_right _ (List.mem_append_right _ (List.mem_append_right _ (List.mem_append_left _ (List.mem_of_getElem? (i := 90) rfl)))))
theorem wt_531 : (.lays "ShortenProgramsModel" "ShortenProgramsModel" "isFirst" "Z" : Cond) ∈ lw_tbl := (List.mem_append_right _ (List.mem_append_right _ (List.mem_append_right _ (List.mem_append_left _ (List.mem_of_getElem? (i := 91) rfl)))))
theorem wt_532 : (.soleField "ShortenProgramsModel" "isFirst" : Cond) ∈ lw_tbl := (List.mem_append_right _ (List.mem_append_right _ (List.mem_append_right _ (List.mem_append_left _ (List.mem_of_getElem? (i := 92) rfl)))))
theorem wt_533 : (.lays "ShortenProgramsModel" "ShortenProgramsModel" "isLowering" "Z" : Cond) ∈ lw_tbl := (List.mem_append_right _ (List.mem_append_right _ (List.mem_append_right _ (List.mem_append_left _ (List.mem_of_getElem? (i := 93) rfl)))))
theorem wt_534 : (.soleField "ShortenProgramsModel" "isLowering" : Cond) ∈ lw_tbl := (List.mem_append_right _ (List.mem_append_right _ (List.mem_append_right _ (List.mem_append_left _ (List.mem_of_getElem? (i := 94) rfl)))))
theorem wt_535 : (.lays "ShortenProgramsModel" "ShortenProgramsModel" "someGood" "Z" : Cond) ∈ lw_tbl := (List.mem_append_right _ (List.mem_append_right _ (List.mem_append_right _ (List.mem_append_left _ (List.mem_of_getElem? (i := 95) rfl)))))
theorem wt_536 : (.soleField "ShortenProgramsModel" "someGood" : Cond) ∈ lw_tbl := (List.mem_append_right _ (List.mem_append_right _ (List.mem_append_right _ (List.mem_append_left _ (List.mem_of_getElem? (i := 96) rfl)))))
theorem wt_537 : (.lays "ShortenProgramsModel" "ShortenProgramsModel" "wasLowered" "Z" : Cond) ∈ lw_tbl := (List.mem_append_right _ (List.mem_append_right _ (List.mem_append_right _ (List.mem_append_left _ (List.mem_of_getElem? (i := 97) rfl)))))
theorem wt_538 : (.soleField "ShortenProgramsModel" "wasLowered" : Cond) ∈ lw_tbl := (List.mem_append_right _ (List.mem_append_right _ (List.mem_append_right _ (List.mem_append_left _ (List.mem_of_getElem? (i := 98) rfl)))))
theorem wt_539 : (.lays "ShortenProgramsModel" "ShortenProgramsModel" "piece" "I" : Cond) ∈ lw_tbl := (List.mem_append_right _ (List.mem_append_right _ (List.mem_append_right _ (List.mem_append_left _ (List.mem_of_getElem? (i := 99) rfl)))))
theorem wt_540 : (.soleField "ShortenProgramsModel" "piece" : Cond) ∈ lw_tbl := (List.mem_append_right _ (List.mem_append_right _ (List.mem_append_right _ (List.mem_append_left _ (List.mem_of_getElem? (i := 100) rfl)))))
theorem wt_541 : (.lays "ShortenProgramsModel" "ShortenProgramsModel" "place" "I" : Cond) ∈ lw_tbl := (List.mem_append_right _ (List.mem_append_right _ (List.mem_append_right _ (List.mem_append_left _ (List.mem_of_getElem? (i := 101) rfl)))))
theorem wt_542 : (.soleField "ShortenProgramsModel" "place" : Cond) ∈ lw_tbl := (List.mem_append_right _ (List.mem_append_right _ (List.mem_append_right _ (List.mem_append_left _ (List.mem_of_getElem? (i := 102) rfl)))))
theorem wt_543 : (.lays "ShortenProgramsModel" "ShortenProgramsModel" "atWord" "I" : Cond) ∈ lw_tbl := (List.mem_append_right _ (List.mem_append_right _ (List.mem_append_right _ (List.mem_append_left _ (List.mem_of_getElem? (i := 103) rfl)))))
theorem wt_544 : (.soleField "ShortenProgramsModel" "atWord" : Cond) ∈ lw_tbl := (List.mem_append_right _ (List.mem_append_right _ (List.mem_append_right _ (List.mem_append_left _ (List.mem_of_getElem? (i := 104) rfl)))))
theorem wt_545 : (.lays "ShortenProgramsModel" "ShortenProgramsModel" "atByte" "I" : Cond) ∈ lw_tbl := (List.mem_append_right _ (List.mem_append_right _ (List.mem_append_right _ (List.mem_append_left _ (List.mem_of_getElem? (i := 105) rfl)))))
theorem wt_546 : (.soleField "ShortenProgramsModel" "atByte" : Cond) ∈ lw_tbl := (List.mem_append_right _ (List.mem_append_right _ (List.mem_append_right _ (List.mem_append_left _ (List.mem_of_getElem? (i := 106) rfl)))))
theorem wt_547 : (.lays "ShortenProgramsModel" "ShortenProgramsModel" "how" "I" : Cond) ∈ lw_tbl := (List.mem_append_right _ (List.mem_append_right _ (List.mem_append_right _ (List.mem_append_left _ (List.mem_of_getElem? (i := 107) rfl)))))
theorem wt_548 : (.soleField "ShortenProgramsModel" "how" : Cond) ∈ lw_tbl := (List.mem_append_right _ (List.mem_append_right _ (List.mem_append_right _ (List.mem_append_left _ (List.mem_of_getElem? (i := 108) rfl)))))
theorem wt_549 : (.lays "ShortenProgramsModel" "ShortenProgramsModel" "difference" "I" : Cond) ∈ lw_tbl := (List.mem_append_right _ (List.mem_append_right _ (List.mem_append_right _ (List.mem_append_left _ (List.mem_of_getElem? (i := 109) rfl)))))
theorem wt_550 : (.soleField "ShortenProgramsModel" "difference" : Cond) ∈ lw_tbl := (List.mem_append_right _ (List.mem_append_right _ (List.mem_append_right _ (List.mem_append_left _ (List.mem_of_getElem? (i := 110) rfl)))))
theorem wt_551 : (.lays "ShortenProgramsModel" "ShortenProgramsModel" "asks" "I" : Cond) ∈ lw_tbl := (List.mem_append_right _ (List.mem_append_right _ (List.mem_append_right _ (List.mem_append_left _ (List.mem_of_getElem? (i := 111) rfl)))))
theorem wt_552 : (.soleField "ShortenProgramsModel" "asks" : Cond) ∈ lw_tbl := (List.mem_append_right _ (List.mem_append_right _ (List.mem_append_right _ (List.mem_append_left _ (List.mem_of_getElem? (i := 112) rfl)))))
theorem wt_553 : (.laysFinal "ShortenProgramsModel" "ShortenProgramsModel" "askedSize" "[I" : Cond) ∈ lw_tbl := (List.mem_append_right _ (List.mem_append_right _ (List.mem_append_right _ (List.mem_append_left _ (List.mem_of_getElem? (i := 113) rfl)))))
theorem wt_554 : (.soleField "ShortenProgramsModel" "askedSize" : Cond) ∈ lw_tbl := (List.mem_append_right _ (List.mem_append_right _ (List.mem_append_right _ (List.mem_append_left _ (List.mem_of_getElem? (i := 114) rfl)))))
theorem wt_555 : (.laysFinal "ShortenProgramsModel" "ShortenProgramsModel" "askedWord" "[I" : Cond) ∈ lw_tbl := (List.mem_append_right _ (List.mem_append_right _ (List.mem_append_right _ (List.mem_append_left _ (List.mem_of_getElem? (i := 115) rfl)))))
theorem wt_556 : (.soleField "ShortenProgramsModel" "askedWord" : Cond) ∈ lw_tbl := (List.mem_append_right _ (List.mem_append_right _ (List.mem_append_right _ (List.mem_append_left _ (List.mem_of_getElem? (i := 116) rfl)))))
theorem wt_557 : (.laysFinal "ShortenProgramsModel" "ShortenProgramsModel" "answer" "[I" : Cond) ∈ lw_tbl := (List.mem_append_right _ (List.mem_append_right _ (List.mem_append_right _ (List.mem_append_left _ (List.mem_of_getElem? (i := 117) rfl)))))
theorem wt_558 : (.soleField "ShortenProgramsModel" "answer" : Cond) ∈ lw_tbl := (List.mem_append_right _ (List.mem_append_right _ (List.mem_append_right _ (List.mem_append_left _ (List.mem_of_getElem? (i := 118) rfl)))))
theorem wt_559 : (.lays "ShortenProgramsModel" "ShortenProgramsModel" "remembered" "I" : Cond) ∈ lw_tbl := (List.mem_append_right _ (List.mem_append_right _ (List.mem_append_right _ (List.mem_append_left _ (List.mem_of_getElem? (i := 119) rfl)))))
theorem wt_560 : (.soleField "ShortenProgramsModel" "remembered" : Cond) ∈ lw_tbl := (List.mem_append_right _ (List.mem_append_right _ (List.mem_append_right _ (List.mem_append_left _ (List.mem_of_getElem? (i := 120) rfl)))))
theorem wt_561 : (.lays "ShortenProgramsModel" "ShortenProgramsModel" "good" "I" : Cond) ∈ lw_tbl := (List.mem_append_right _ (List.mem_append_right _ (List.mem_append_right _ (List.mem_append_left _ (List.mem_of_getElem? (i := 121) rfl)))))
theorem wt_562 : (.soleField "ShortenProgramsModel" "good" : Cond) ∈ lw_tbl := (List.mem_append_right _ (List.mem_append_right _ (List.mem_append_right _ (List.mem_append_left _ (List.mem_of_getElem? (i := 122) rfl)))))
theorem wt_563 : (.lays "ShortenProgramsModel" "ShortenProgramsModel" "leftOut" "I" : Cond) ∈ lw_tbl := (List.mem_append_right _ (List.mem_append_right _ (List.mem_append_right _ (List.mem_append_left _ (List.mem_of_getElem? (i := 123) rfl)))))
theorem wt_564 : (.soleField "ShortenProgramsModel" "leftOut" : Cond) ∈ lw_tbl := (List.mem_append_right _ (List.mem_append_right _ (List.mem_append_right _ (List.mem_append_left _ (List.mem_of_getElem? (i := 124) rfl)))))
theorem wt_565 : (.lays "ShortenProgramsModel" "ShortenProgramsModel" "lowered" "I" : Cond) ∈ lw_tbl := (List.mem_append_right _ (List.mem_append_right _ (List.mem_append_right _ (List.mem_append_left _ (List.mem_of_getElem? (i := 125) rfl)))))
theorem wt_566 : (.soleField "ShortenProgramsModel" "lowered" : Cond) ∈ lw_tbl := (List.mem_append_right _ (List.mem_append_right _ (List.mem_append_right _ (List.mem_append_left _ (List.mem_of_getElem? (i := 126) rfl)))))
theorem wt_567 : (.lays "ShortenProgramsModel" "ShortenProgramsModel" "begun" "I" : Cond) ∈ lw_tbl := (List.mem_append_right _ (List.mem_append_right _ (List.mem_append_right _ (List.mem_append_left _ (List.mem_of_getElem? (i := 127) rfl)))))
theorem wt_568 : (.soleField "ShortenProgramsModel" "begun" : Cond) ∈ lw_tbl := (List.mem_append_right _ (List.mem_append_right _ (List.mem_append_right _ (List.mem_append_left _ (List.mem_of_getElem? (i := 128) rfl)))))
theorem wt_569 : (.superclass "ShortenProgramsModel" "java/lang/Object" : Cond) ∈ lw_tbl := (List.mem_append_right _ (List.mem_append_right _ (List.mem_append_right _ (List.mem_append_left _ (List.mem_of_getElem? (i := 129) rfl)))))
theorem wt_570 : (.methodLink "ShortenProgramsLaw" 60 yD_thrown : Cond) ∈ lw_tbl := (List.mem_append_right _ (List.mem_append_right _ (List.mem_append_right _ (List.mem_append_left _ (List.mem_of_getElem? (i := 130) rfl)))))
theorem wt_571 : (.instanceMethod yD_thrown : Cond) ∈ lw_tbl := (List.mem_append_right _ (List.mem_append_right _ (List.mem_append_right _ (List.mem_append_left _ (List.mem_of_getElem? (i := 131) rfl)))))
theorem wt_572 : (.selects "ShortenProgramsModel" yD_thrown yD_thrown : Cond) ∈ lw_tbl := (List.mem_append_right _ (List.mem_append_right _ (List.mem_append_right _ (List.mem_append_left _ (List.mem_of_getElem? (i := 132) rfl)))))
theorem wt_573 : (.code yD_thrown prog_7_method_2_code 1 (some .int) : Cond) ∈ lw_tbl := (List.mem_append_right _ (List.mem_append_right _ (List.mem_append_right _ (List.mem_append_left _ (List.mem_of_getElem? (i := 133) rfl)))))
theorem wt_574 : (.methodLink "ShortenProgramsLaw" 59 yD_feed : Cond) ∈ lw_tbl := (List.mem_append_right _ (List.mem_append_right _ (List.mem_append_right _ (List.mem_append_left _ (List.mem_of_getElem? (i := 134) rfl)))))
theorem wt_575 : (.instanceMethod yD_feed : Cond) ∈ lw_tbl := (List.mem_append_right _ (List.mem_append_right _ (List.mem_append_right _ (List.mem_append_left _ (List.mem_of_getElem? (i := 135) rfl)))))
theorem wt_576 : (.selects "ShortenProgramsModel" yD_feed yD_feed : Cond) ∈ lw_tbl := (List.mem_append_right _ (List.mem_append_right _ (List.mem_append_right _ (List.mem_append_left _ (List.mem_of_getElem? (i := 136) rfl)))))
theorem wt_577 : (.code yD_feed prog_7_method_5_code 2 (some .int) : Cond) ∈ lw_tbl := (List.mem_append_right _ (List.mem_append_right _ (List.mem_append_right _ (List.mem_append_left _ (List.mem_of_getElem? (i := 137) rfl)))))
theorem wt_578 : (.methodLink "ShortenProgramsModel" 44 yD_fail : Cond) ∈ lw_tbl := (List.mem_append_right _ (List.mem_append_right _ (List.mem_append_right _ (List.mem_append_left _ (List.mem_of_getElem? (i := 138) rfl)))))
theorem wt_579 : (.instanceMethod yD_fail : Cond) ∈ lw_tbl := (List.mem_append_right _ (List.mem_append_right _ (List.mem_append_right _ (List.mem_append_left _ (List.mem_of_getElem? (i := 140) rfl)))))
theorem wt_580 : (.code yD_fail prog_7_method_3_code 2 (some .int) : Cond) ∈ lw_tbl := (List.mem_append_right _ (List.mem_append_right _ (List.mem_append_right _ (List.mem_append_left _ (List.mem_of_getElem? (i := 141) rfl)))))
theorem wt_581 : (.methodLink "ShortenProgramsLaw" 66 yD_begin : Cond) ∈ lw_tbl := (List.mem_append_right _ (List.mem_append_right _ (List.mem_append_right _ (List.mem_append_left _ (List.mem_of_getElem? (i := 142) rfl)))))
theorem wt_582 : (.instanceMethod yD_begin : Cond) ∈ lw_tbl := (List.mem_append_right _ (List.mem_append_right _ (List.mem_append_right _ (List.mem_append_left _ (List.mem_of_getElem? (i := 143) rfl)))))
theorem wt_583 : (.selects "ShortenProgramsModel" yD_begin yD_begin : Cond) ∈ lw_tbl := (List.mem_append_right _ (List.mem_append_right _ (List.mem_append_right _ (List.mem_append_left _ (List.mem_of_getElem? (i := 144) rfl)))))
theorem wt_584 : (.code yD_begin prog_7_method_22_code 1 none : Cond) ∈ lw_tbl := (List.mem_append_right _ (List.mem_append_right _ (List.mem_append_right _ (List.mem_append_left _ (List.mem_of_getElem? (i := 145) rfl)))))
theorem wt_585 : (.methodLink "ShortenProgramsModel" 105 yD_without : Cond) ∈ lw_tbl := (List.mem_append_right _ (List.mem_append_right _ (List.mem_append_right _ (List.mem_append_left _ (List.mem_of_getElem? (i := 146) rfl)))))
theorem wt_586 : (.instanceMethod yD_without : Cond) ∈ lw_tbl := (List.mem_append_right _ (List.mem_append_right _ (List.mem_append_right _ (List.mem_append_left _ (List.mem_of_getElem? (i := 148) rfl)))))
theorem wt_587 : (.code yD_without prog_7_method_8_code 4 none : Cond) ∈ lw_tbl := (List.mem_append_right _ (List.mem_append_right _ (List.mem_append_right _ (List.mem_append_left _ (List.mem_of_getElem? (i := 149) rfl)))))
theorem wt_588 : (.methodLink "ShortenProgramsModel" 140 yD_put : Cond) ∈ lw_tbl := (List.mem_append_right _ (List.mem_append_right _ (List.mem_append_right _ (List.mem_append_left _ (List.mem_of_getElem? (i := 150) rfl)))))
theorem wt_589 : (.instanceMethod yD_put : Cond) ∈ lw_tbl := (List.mem_append_right _ (List.mem_append_right _ (List.mem_append_right _ (List.mem_append_left _ (List.mem_of_getElem? (i := 152) rfl)))))
theorem wt_590 : (.code yD_put prog_7_method_21_code 2 none : Cond) ∈ lw_tbl := (List.mem_append_right _ (List.mem_append_right _ (List.mem_append_right _ (List.mem_append_left _ (List.mem_of_getElem? (i := 153) rfl)))))
theorem wt_591 : (.methodLink "ShortenProgramsLaw" 76 yD_judge : Cond) ∈ lw_tbl := (List.mem_append_right _ (List.mem_append_right _ (List.mem_append_right _ (List.mem_append_left _ (List.mem_of_getElem? (i := 154) rfl)))))
theorem wt_592 : (.instanceMethod yD_judge : Cond) ∈ lw_tbl := (List.mem_append_right _ (List.mem_append_right _ (List.mem_append_right _ (List.mem_append_left _ (List.mem_of_getElem? (i := 155) rfl)))))
theorem wt_593 : (.selects "ShortenProgramsModel" yD_judge yD_judge : Cond) ∈ lw_tbl := (List.mem_append_right _ (List.mem_append_right _ (List.mem_append_right _ (List.mem_append_left _ (List.mem_of_getElem? (i := 156) rfl)))))
theorem wt_594 : (.code yD_judge prog_7_method_23_code 2 (some .int) : Cond) ∈ lw_tbl := (List.mem_append_right _ (List.mem_append_right _ (List.mem_append_right _ (List.mem_append_left _ (List.mem_of_getElem? (i := 157) rfl)))))
theorem wt_595 : (.methodLink "ShortenProgramsModel" 112 yD_beginLeaving : Cond) ∈ lw_tbl := (List.mem_append_right _ (List.mem_append_right _ (List.mem_append_right _ (List.mem_append_left _ (List.mem_of_getElem? (i := 158) rfl)))))
theorem wt_596 : (.instanceMethod yD_beginLeaving : Cond) ∈ lw_tbl := (List.mem_append_right _ (List.mem_append_right _ (List.mem_append_right _ (List.mem_append_left _ (List.mem_of_getElem? (i := 160) rfl)))))
theorem wt_597 : (.code yD_beginLeaving prog_7_method_12_code 2 none : Cond) ∈ lw_tbl := (List.mem_append_right _ (List.mem_append_right _ (List.mem_append_right _ (List.mem_append_left _ (List.mem_of_getElem? (i := 161) rfl)))))
theorem wt_598 : (.methodLink "ShortenProgramsModel" 143 yD_answered : Cond) ∈ lw_tbl := (List.mem_append_right _ (List.mem_append_right _ (List.mem_append_right _ (List.mem_append_left _ (List.mem_of_getElem? (i := 162) rfl)))))
theorem wt_599 : (.instanceMethod yD_answered : Cond) ∈ lw_tbl := (List.mem_append_right _ (List.mem_append_right _ (List.mem_append_right _ (List.mem_append_left _ (List.mem_of_getElem? (i := 164) rfl)))))
theorem wt_600 : (.code yD_answered prog_7_method_19_code 3 none : Cond) ∈ lw_tbl := (List.mem_append_right _ (List.mem_append_right _ (List.mem_append_right _ (List.mem_append_left _ (List.mem_of_getElem? (i := 165) rfl)))))
theorem wt_601 : (.methodLink "ShortenProgramsModel" 127 yD_takeLeaving : Cond) ∈ lw_tbl := (List.mem_append_right _ (List.mem_append_right _ (List.mem_append_right _ (List.mem_append_left _ (List.mem_of_getElem? (i := 166) rfl)))))
theorem wt_602 : (.instanceMethod yD_takeLeaving : Cond) ∈ lw_tbl := (List.mem_append_right _ (List.mem_append_right _ (List.mem_append_right _ (List.mem_append_left _ (List.mem_of_getElem? (i := 168) rfl)))))
theorem wt_603 : (.code yD_takeLeaving prog_7_method_17_code 3 none : Cond) ∈ lw_tbl := (List.mem_append_right _ (List.mem_append_right _ (List.mem_append_right _ (List.mem_append_left _ (List.mem_of_getElem? (i := 169) rfl)))))
theorem wt_604 : (.methodLink "ShortenProgramsModel" 130 yD_takeLowering : Cond) ∈ lw_tbl := (List.mem_append_right _ (List.mem_append_right _ (List.mem_append_right _ (List.mem_append_left _ (List.mem_of_getElem? (i := 170) rfl)))))
theorem wt_605 : (.instanceMethod yD_takeLowering : Cond) ∈ lw_tbl := (List.mem_append_right _ (List.mem_append_right _ (List.mem_append_right _ (List.mem_append_left _ (List.mem_of_getElem? (i := 172) rfl)))))
theorem wt_606 : (.code yD_takeLowering prog_7_method_18_code 1 none : Cond) ∈ lw_tbl := (List.mem_append_right _ (List.mem_append_right _ (List.mem_append_right _ (List.mem_append_left _ (List.mem_of_getElem? (i := 173) rfl)))))
theorem wt_607 : (.methodLink "ShortenProgramsModel" 124 yD_nextByte : Cond) ∈ lw_tbl := (List.mem_append_right _ (List.mem_append_right _ (List.mem_append_right _ (List.mem_append_left _ (List.mem_of_getElem? (i := 174) rfl)))))
theorem wt_608 : (.instanceMethod yD_nextByte : Cond) ∈ lw_tbl := (List.mem_append_right _ (List.mem_append_right _ (List.mem_append_right _ (List.mem_append_left _ (List.mem_of_getElem? (i := 176) rfl)))))
theorem wt_609 : (.code yD_nextByte prog_7_method_14_code 1 none : Cond) ∈ lw_tbl := (List.mem_append_right _ (List.mem_append_right _ (List.mem_append_right _ (List.mem_append_left _ (List.mem_of_getElem? (i := 177) rfl)))))
theorem wt_610 : (.methodLink "ShortenProgramsModel" 149 yD_goOn : Cond) ∈ lw_tbl := (List.mem_append_right _ (List.mem_append_right _ (List.mem_append_right _ (List.mem_append_left _ (List.mem_of_getElem? (i := 178) rfl)))))
theorem wt_611 : (.instanceMethod yD_goOn : Cond) ∈ lw_tbl := (List.mem_append_right _ (List.mem_append_right _ (List.mem_append_right _ (List.mem_append_left _ (List.mem_of_getElem? (i := 180) rfl)))))
theorem wt_612 : (.code yD_goOn prog_7_method_20_code 2 none : Cond) ∈ lw_tbl := (List.mem_append_right _ (List.mem_append_right _ (List.mem_append_right _ (List.mem_append_left _ (List.mem_of_getElem? (i := 181) rfl)))))
theorem wt_613 : (.methodLink "ShortenProgramsModel" 133 yD_prepare : Cond) ∈ lw_tbl := (List.mem_append_right _ (List.mem_append_right _ (List.mem_append_right _ (List.mem_append_left _ (List.mem_of_getElem? (i := 182) rfl)))))
theorem wt_614 : (.instanceMethod yD_prepare : Cond) ∈ lw_tbl := (List.mem_append_right _ (List.mem_append_right _ (List.mem_append_right _ (List.mem_append_left _ (List.mem_of_getElem? (i := 184) rfl)))))
theorem wt_615 : (.code yD_prepare prog_7_method_16_code 2 (some .boolean) : Cond) ∈ lw_tbl := (List.mem_append_right _ (List.mem_append_right _ (List.mem_append_right _ (List.mem_append_left _ (List.mem_of_getElem? (i := 185) rfl)))))
theorem wt_616 : (.methodLink "ShortenProgramsModel" 109 yD_endPass : Cond) ∈ lw_tbl := (List.mem_append_right _ (List.mem_append_right _ (List.mem_append_right _ (List.mem_append_left _ (List.mem_of_getElem? (i := 186) rfl)))))
theorem wt_617 : (.instanceMethod yD_endPass : Cond) ∈ lw_tbl := (List.mem_append_right _ (List.mem_append_right _ (List.mem_append_right _ (List.mem_append_left _ (List.mem_of_getElem? (i := 188) rfl)))))
theorem wt_618 : (.code yD_endPass prog_7_method_15_code 2 none : Cond) ∈ lw_tbl := (List.mem_append_right _ (List.mem_append_right _ (List.mem_append_right _ (List.mem_append_left _ (List.mem_of_getElem? (i := 189) rfl)))))
theorem wt_619 : (.methodLink "ShortenProgramsModel" 102 yD_beginLowering : Cond) ∈ lw_tbl := (List.mem_append_right _ (List.mem_append_right _ (List.mem_append_right _ (List.mem_append_left _ (List.mem_of_getElem? (i := 190) rfl)))))
theorem wt_620 : (.instanceMethod yD_beginLowering : Cond) ∈ lw_tbl := (List.mem_append_right _ (List.mem_append_right _ (List.mem_append_right _ (List.mem_append_left _ (List.mem_of_getElem? (i := 192) rfl)))))
theorem wt_621 : (.code yD_beginLowering prog_7_method_13_code 1 none : Cond) ∈ lw_tbl := (List.mem_append_right _ (List.mem_append_right _ (List.mem_append_right _ (List.mem_append_left _ (List.mem_of_getElem? (i := 193) rfl)))))
theorem wt_622 : (.methodLink "ShortenProgramsModel" 116 yD_lowerTo : Cond) ∈ lw_tbl := (List.mem_append_right _ (List.mem_append_right _ (List.mem_append_right _ (List.mem_append_left _ (List.mem_of_getElem? (i := 194) rfl)))))
theorem wt_623 : (.instanceMethod yD_lowerTo : Cond) ∈ lw_tbl := (List.mem_append_right _ (List.mem_append_right _ (List.mem_append_right _ (List.mem_append_left _ (List.mem_of_getElem? (i := 196) rfl)))))
theorem wt_624 : (.code yD_lowerTo prog_7_method_11_code 3 (some .int) : Cond) ∈ lw_tbl := (List.mem_append_right _ (List.mem_append_right _ (List.mem_append_right _ (List.mem_append_left _ (List.mem_of_getElem? (i := 197) rfl)))))
theorem wt_625 : (.methodLink "ShortenProgramsModel" 79 yD_byteOf : Cond) ∈ lw_tbl := (List.mem_append_right _ (List.mem_append_right _ (List.mem_append_right _ (List.mem_append_left _ (List.mem_of_getElem? (i := 198) rfl)))))
theorem wt_626 : (.instanceMethod yD_byteOf : Cond) ∈ lw_tbl := (List.mem_append_right _ (List.mem_append_right _ (List.mem_append_right _ (List.mem_append_left _ (List.mem_of_getElem? (i := 200) rfl)))))
theorem wt_627 : (.code yD_byteOf prog_7_method_10_code 3 (some .int) : Cond) ∈ lw_tbl := (List.mem_append_right _ (List.mem_append_right _ (List.mem_append_right _ (List.mem_append_left _ (List.mem_of_getElem? (i := 201) rfl)))))
theorem wt_628 : (.methodLink "ShortenProgramsModel" 120 yD_withByte : Cond) ∈ lw_tbl := (List.mem_append_right _ (List.mem_append_right _ (List.mem_append_right _ (List.mem_append_left _ (List.mem_of_getElem? (i := 202) rfl)))))
theorem wt_629 : (.instanceMethod yD_withByte : Cond) ∈ lw_tbl := (List.mem_append_right _ (List.mem_append_right _ (List.mem_append_right _ (List.mem_append_left _ (List.mem_of_getElem? (i := 204) rfl)))))
theorem wt_630 : (.code yD_withByte prog_7_method_9_code 5 none : Cond) ∈ lw_tbl := (List.mem_append_right _ (List.mem_append_right _ (List.mem_append_right _ (List.mem_append_left _ (List.mem_of_getElem? (i := 205) rfl)))))
theorem wt_631 : (.methodLink "ShortenProgramsModel" 137 yD_find : Cond) ∈ lw_tbl := (List.mem_append_right _ (List.mem_append_right _ (List.mem_append_right _ (List.mem_append_left _ (List.mem_of_getElem? (i := 206) rfl)))))
theorem wt_632 : (.instanceMethod yD_find : Cond) ∈ lw_tbl := (List.mem_append_right _ (List.mem_append_right _ (List.mem_append_right _ (List.mem_append_left _ (List.mem_of_getElem? (i := 208) rfl)))))
theorem wt_633 : (.code yD_find prog_7_method_7_code 2 (some .int) : Cond) ∈ lw_tbl := (List.mem_append_right _ (List.mem_append_right _ (List.mem_append_right _ (List.mem_append_left _ (List.mem_of_getElem? (i := 209) rfl)))))
theorem wt_634 : (.methodLink "ShortenProgramsModel" 69 yD_isAsked : Cond) ∈ lw_tbl := (List.mem_append_right _ (List.mem_append_right _ (List.mem_append_right _ (List.mem_append_left _ (List.mem_of_getElem? (i := 210) rfl)))))
theorem wt_635 : (.instanceMethod yD_isAsked : Cond) ∈ lw_tbl := (List.mem_append_right _ (List.mem_append_right _ (List.mem_append_right _ (List.mem_append_left _ (List.mem_of_getElem? (i := 212) rfl)))))
theorem wt_636 : (.code yD_isAsked prog_7_method_6_code 3 (some .boolean) : Cond) ∈ lw_tbl := (List.mem_append_right _ (List.mem_append_right _ (List.mem_append_right _ (List.mem_append_left _ (List.mem_of_getElem? (i := 213) rfl)))))
theorem wt_637 : (.methodLink "ShortenProgramsLaw" 69 yD_asked : Cond) ∈ lw_tbl := (List.mem_append_right _ (List.mem_append_right _ (List.mem_append_right _ (List.mem_append_left _ (List.mem_of_getElem? (i := 214) rfl)))))
theorem wt_638 : (.instanceMethod yD_asked : Cond) ∈ lw_tbl := (List.mem_append_right _ (List.mem_append_right _ (List.mem_append_right _ (List.mem_append_left _ (List.mem_of_getElem? (i := 215) rfl)))))
theorem wt_639 : (.selects "ShortenProgramsModel" yD_asked yD_asked : Cond) ∈ lw_tbl := (List.mem_append_right _ (List.mem_append_right _ (List.mem_append_right _ (List.mem_append_left _ (List.mem_of_getElem? (i := 216) rfl)))))
theorem wt_640 : (.code yD_asked prog_7_method_24_code 2 (some .int) : Cond) ∈ lw_tbl := (List.mem_append_right _ (List.mem_append_right _ (List.mem_append_right _ (List.mem_append_left _ (List.mem_of_getElem? (i := 217) rfl)))))
theorem wt_641 : (.methodLink "ShortenProgramsModel" 152 yD_within : Cond) ∈ lw_tbl := (List.mem_append_right _ (List.mem_append_right _ (List.mem_append_right _ (List.mem_append_left _ (List.mem_of_getElem? (i := 218) rfl)))))
theorem wt_642 : (.static yD_within : Cond) ∈ lw_tbl := (List.mem_append_right _ (List.mem_append_right _ (List.mem_append_right _ (List.mem_append_left _ (List.mem_of_getElem? (i := 219) rfl)))))
theorem wt_643 : (.code yD_within prog_7_method_4_code 3 (some .boolean) : Cond) ∈ lw_tbl := (List.mem_append_right _ (List.mem_append_right _ (List.mem_append_right _ (List.mem_append_left _ (List.mem_of_getElem? (i := 220) rfl)))))
theorem wt_644 : (.methodLink "ShortenProgramsLaw" 73 yD_size : Cond) ∈ lw_tbl := (List.mem_append_right _ (List.mem_append_right _ (List.mem_append_right _ (List.mem_append_left _ (List.mem_of_getElem? (i := 221) rfl)))))
theorem wt_645 : (.instanceMethod yD_size : Cond) ∈ lw_tbl := (List.mem_append_right _ (List.mem_append_right _ (List.mem_append_right _ (List.mem_append_left _ (List.mem_of_getElem? (i := 222) rfl)))))
theorem wt_646 : (.selects "ShortenProgramsModel" yD_size yD_size : Cond) ∈ lw_tbl := (List.mem_append_right _ (List.mem_append_right _ (List.mem_append_right _ (List.mem_append_left _ (List.mem_of_getElem? (i := 223) rfl)))))
theorem wt_647 : (.code yD_size prog_7_method_25_code 1 (some .int) : Cond) ∈ lw_tbl := (List.mem_append_right _ (List.mem_append_right _ (List.mem_append_right _ (List.mem_append_left _ (List.mem_of_getElem? (i := 224) rfl)))))
theorem wt_648 : (.methodLink "ShortenProgramsLaw" 79 yD_at : Cond) ∈ lw_tbl := (List.mem_append_right _ (List.mem_append_right _ (List.mem_append_right _ (List.mem_append_left _ (List.mem_of_getElem? (i := 225) rfl)))))
theorem wt_649 : (.instanceMethod yD_at : Cond) ∈ lw_tbl := (List.mem_append_right _ (List.mem_append_right _ (List.mem_append_right _ (List.mem_append_left _ (List.mem_of_getElem? (i := 226) rfl)))))
theorem wt_650 : (.selects "ShortenProgramsModel" yD_at yD_at : Cond) ∈ lw_tbl := (List.mem_append_right _ (List.mem_append_right _ (List.mem_append_right _ (List.mem_append_left _ (List.mem_of_getElem? (i := 227) rfl)))))
theorem wt_651 : (.code yD_at prog_7_method_26_code 2 (some .int) : Cond) ∈ lw_tbl := (List.mem_append_right _ (List.mem_append_right _ (List.mem_append_right _ (List.mem_append_left _ (List.mem_of_getElem? (i := 228) rfl)))))
theorem wt_652 : (.methodLink "ShortenProgramsLaw" 82 yD_from : Cond) ∈ lw_tbl := (List.mem_append_right _ (List.mem_append_right _ (List.mem_append_right _ (List.mem_append_left _ (List.mem_of_getElem? (i := 229) rfl)))))
theorem wt_653 : (.instanceMethod yD_from : Cond) ∈ lw_tbl := (List.mem_append_right _ (List.mem_append_right _ (List.mem_append_right _ (List.mem_append_left _ (List.mem_of_getElem? (i := 230) rfl)))))
theorem wt_654 : (.selects "ShortenProgramsModel" yD_from yD_from : Cond) ∈ lw_tbl := (List.mem_append_right _ (List.mem_append_right _ (List.mem_append_right _ (List.mem_append_left _ (List.mem_of_getElem? (i := 231) rfl)))))
theorem wt_655 : (.code yD_from prog_7_method_27_code 2 (some .int) : Cond) ∈ lw_tbl := (List.mem_append_right _ (List.mem_append_right _ (List.mem_append_right _ (List.mem_append_left _ (List.mem_of_getElem? (i := 232) rfl)))))
theorem wt_656 : (.methodLink "ShortenProgramsLaw" 86 yD_known : Cond) ∈ lw_tbl := (List.mem_append_right _ (List.mem_append_right _ (List.mem_append_right _ (List.mem_append_left _ (List.mem_of_getElem? (i := 233) rfl)))))
theorem wt_657 : (.instanceMethod yD_known : Cond) ∈ lw_tbl := (List.mem_append_right _ (List.mem_append_right _ (List.mem_append_right _ (List.mem_append_left _ (List.mem_of_getElem? (i := 234) rfl)))))
theorem wt_658 : (.selects "ShortenProgramsModel" yD_known yD_known : Cond) ∈ lw_tbl := (List.mem_append_right _ (List.mem_append_right _ (List.mem_append_right _ (List.mem_append_left _ (List.mem_of_getElem? (i := 235) rfl)))))
theorem wt_659 : (.code yD_known prog_7_method_28_code 8 (some .int) : Cond) ∈ lw_tbl := (List.mem_append_right _ (List.mem_append_right _ (List.mem_append_right _ (List.mem_append_left _ (List.mem_of_getElem? (i := 236) rfl)))))
theorem wt_660 : (.methodLink "ShortenProgramsLaw" 90 yD_count : Cond) ∈ lw_tbl := (List.mem_append_right _ (List.mem_append_right _ (List.mem_append_right _ (List.mem_append_left _ (List.mem_of_getElem? (i := 237) rfl)))))
theorem wt_661 : (.instanceMethod yD_count : Cond) ∈ lw_tbl := (List.mem_append_right _ (List.mem_append_right _ (List.mem_append_right _ (List.mem_append_left _ (List.mem_of_getElem? (i := 238) rfl)))))
theorem wt_662 : (.selects "ShortenProgramsModel" yD_count yD_count : Cond) ∈ lw_tbl := (List.mem_append_right _ (List.mem_append_right _ (List.mem_append_right _ (List.mem_append_left _ (List.mem_of_getElem? (i := 239) rfl)))))
theorem wt_663 : (.code yD_count prog_7_method_29_code 2 (some .int) : Cond) ∈ lw_tbl := (List.mem_append_right _ (List.mem_append_right _ (List.mem_append_right _ (List.mem_append_right _ (List.mem_of_getElem? (i := 0) rfl)))))
theorem wt_664 : (.arrayClass .long : Cond) ∈ lw_tbl := (List.mem_append_right _ (List.mem_append_right _ (List.mem_append_right _ (List.mem_append_right _ (List.mem_of_getElem? (i := 1) rfl)))))
theorem wt_665 : (.sameMethod "java/lang/Throwable" "java/lang/Throwable" "fillInStackTrace" "(I)Ljava/lang/Throwable;" : Cond) ∈ lw_tbl := (List.mem_append_right _ (List.mem_append_right _ (List.mem_append_right _ (List.mem_append_right _ (List.mem_of_getElem? (i := 2) rfl)))))
theorem wt_666 : (.selects rS yS_startAfresh yS_startAfresh : Cond) ∈ lw_tbl := (List.mem_append_left _ (List.mem_of_getElem? (i := 0) rfl))
theorem wt_667 : (.selects "java/lang/Throwable" ⟨"java/lang/Throwable", "fillInStackTrace", "(I)Ljava/lang/Throwable;"⟩ ⟨"java/lang/Throwable", "fillInStackTrace", "(I)Ljava/lang/Throwable;"⟩ : Cond) ∈ lw_tbl := (List.mem_append_left _ (List.mem_of_getElem? (i := 1) rfl))
theorem wt_668 : (.selects rS yS_openAsk yS_openAsk : Cond) ∈ lw_tbl := (List.mem_append_left _ (List.mem_of_getElem? (i := 2) rfl))
theorem wt_669 : (.selects rS yS_takeFirst yS_takeFirst : Cond) ∈ lw_tbl := (List.mem_append_left _ (List.mem_of_getElem? (i := 3) rfl))
theorem wt_670 : (.selects rW yW_startGoingThrough yW_startGoingThrough : Cond) ∈ lw_tbl := (List.mem_append_left _ (List.mem_of_getElem? (i := 4) rfl))
theorem wt_671 : (.selects rS yS_take yS_take : Cond) ∈ lw_tbl := (List.mem_append_left _ (List.mem_of_getElem? (i := 5) rfl))
theorem wt_672 : (.selects rW yW_nextByte yW_nextByte : Cond) ∈ lw_tbl := (List.mem_append_left _ (List.mem_of_getElem? (i := 6) rfl))
theorem wt_673 : (.selects rW yW_lowerValue yW_lowerValue : Cond) ∈ lw_tbl := (List.mem_append_left _ (List.mem_of_getElem? (i := 7) rfl))
theorem wt_674 : (.selects rS yS_askNext yS_askNext : Cond) ∈ lw_tbl := (List.mem_append_left _ (List.mem_of_getElem? (i := 8) rfl))
theorem wt_675 : (.selects rW yW_endGoingThrough yW_endGoingThrough : Cond) ∈ lw_tbl := (List.mem_append_left _ (List.mem_of_getElem? (i := 9) rfl))
theorem wt_676 : (.selects rW yW_startLowering yW_startLowering : Cond) ∈ lw_tbl := (List.mem_append_left _ (List.mem_of_getElem? (i := 10) rfl))
theorem wt_677 : (.selects rW yW_canLower yW_canLower : Cond) ∈ lw_tbl := (List.mem_append_left _ (List.mem_of_getElem? (i := 11) rfl))
theorem wt_678 : (.selects rS yS_ask yS_ask : Cond) ∈ lw_tbl := (List.mem_append_left _ (List.mem_of_getElem? (i := 12) rfl))
theorem wt_679 : (.selects rD yD_fail yD_fail : Cond) ∈ lw_tbl := (List.mem_append_left _ (List.mem_of_getElem? (i := 13) rfl))
theorem wt_680 : (.selects rD yD_without yD_without : Cond) ∈ lw_tbl := (List.mem_append_left _ (List.mem_of_getElem? (i := 14) rfl))
theorem wt_681 : (.selects rD yD_put yD_put : Cond) ∈ lw_tbl := (List.mem_append_left _ (List.mem_of_getElem? (i := 15) rfl))
theorem wt_682 : (.selects rD yD_beginLeaving yD_beginLeaving : Cond) ∈ lw_tbl := (List.mem_append_left _ (List.mem_of_getElem? (i := 16) rfl))
theorem wt_683 : (.selects rD yD_answered yD_answered : Cond) ∈ lw_tbl := (List.mem_append_left _ (List.mem_of_getElem? (i := 17) rfl))
theorem wt_684 : (.selects rD yD_takeLeaving yD_takeLeaving : Cond) ∈ lw_tbl := (List.mem_append_left _ (List.mem_of_getElem? (i := 18) rfl))
theorem wt_685 : (.selects rD yD_takeLowering yD_takeLowering : Cond) ∈ lw_tbl := (List.mem_append_left _ (List.mem_of_getElem? (i := 19) rfl))
theorem wt_686 : (.selects rD yD_nextByte yD_nextByte : Cond) ∈ lw_tbl := (List.mem_append_left _ (List.mem_of_getElem? (i := 20) rfl))
theorem wt_687 : (.selects rD yD_goOn yD_goOn : Cond) ∈ lw_tbl := (List.mem_append_left _ (List.mem_of_getElem? (i := 21) rfl))
theorem wt_688 : (.selects rD yD_prepare yD_prepare : Cond) ∈ lw_tbl := (List.mem_append_left _ (List.mem_of_getElem? (i := 22) rfl))
theorem wt_689 : (.selects rD yD_endPass yD_endPass : Cond) ∈ lw_tbl := (List.mem_append_left _ (List.mem_of_getElem? (i := 23) rfl))
theorem wt_690 : (.selects rD yD_beginLowering yD_beginLowering : Cond) ∈ lw_tbl := (List.mem_append_left _ (List.mem_of_getElem? (i := 24) rfl))
theorem wt_691 : (.selects rD yD_lowerTo yD_lowerTo : Cond) ∈ lw_tbl := (List.mem_append_left _ (List.mem_of_getElem? (i := 25) rfl))
theorem wt_692 : (.selects rD yD_byteOf yD_byteOf : Cond) ∈ lw_tbl := (List.mem_append_left _ (List.mem_of_getElem? (i := 26) rfl))
theorem wt_693 : (.selects rD yD_withByte yD_withByte : Cond) ∈ lw_tbl := (List.mem_append_left _ (List.mem_of_getElem? (i := 27) rfl))
theorem wt_694 : (.selects rD yD_find yD_find : Cond) ∈ lw_tbl := (List.mem_append_left _ (List.mem_of_getElem? (i := 28) rfl))
theorem wt_695 : (.selects rD yD_isAsked yD_isAsked : Cond) ∈ lw_tbl := (List.mem_append_left _ (List.mem_of_getElem? (i := 29) rfl))
theorem wA_t0 : ∀ w ∈ wA_0, w ∈ lw_tbl := List.forall_mem_cons.mpr ⟨wt_0, List.forall_mem_cons.mpr ⟨wt_1, List.forall_mem_cons.mpr ⟨wt_2, List.forall_mem_cons.mpr ⟨wt_3, List.forall_mem_cons.mpr ⟨wt_4, List.forall_mem_cons.mpr ⟨wt_5, List.forall_mem_cons.mpr ⟨wt_6, List.forall_mem_cons.mpr ⟨wt_7, List.forall_mem_cons.mpr ⟨wt_8, List.forall_mem_cons.mpr ⟨wt_9, List.forall_mem_cons.mpr ⟨wt_10, List.forall_mem_cons.mpr ⟨wt_11, List.forall_mem_cons.mpr ⟨wt_12, List.forall_mem_cons.mpr ⟨wt_13, List.forall_mem_cons.mpr ⟨wt_14, List.forall_mem_cons.mpr ⟨wt_15, List.forall_mem_cons.mpr ⟨wt_16, List.forall_mem_cons.mpr ⟨wt_17, List.forall_mem_cons.mpr ⟨wt_18, List.forall_mem_cons.mpr ⟨wt_19, List.forall_mem_cons.mpr ⟨wt_20, List.forall_mem_cons.mpr ⟨wt_21, List.forall_mem_cons.mpr ⟨wt_22, List.forall_mem_cons.mpr ⟨wt_23, List.forall_mem_cons.mpr ⟨wt_24, List.forall_mem_cons.mpr ⟨wt_25, List.forall_mem_cons.mpr ⟨wt_26, List.forall_mem_cons.mpr ⟨wt_27, List.forall_mem_cons.mpr ⟨wt_28, List.forall_mem_cons.mpr ⟨wt_29, List.forall_mem_cons.mpr ⟨wt_30, List.forall_mem_cons.mpr ⟨wt_31, List.forall_mem_cons.mpr ⟨wt_32, List.forall_mem_cons.mpr ⟨wt_33, List.forall_mem_cons.mpr ⟨wt_34, List.forall_mem_cons.mpr ⟨wt_35, List.forall_mem_cons.mpr ⟨wt_36, List.forall_mem_cons.mpr ⟨wt_37, List.forall_mem_cons.mpr ⟨wt_38, List.forall_mem_cons.mpr ⟨wt_39, fun _ h => absurd h List.not_mem_nil⟩⟩⟩⟩⟩⟩⟩⟩⟩⟩⟩⟩⟩⟩⟩⟩⟩⟩⟩⟩⟩⟩⟩⟩⟩⟩⟩⟩⟩⟩⟩⟩⟩⟩⟩⟩⟩⟩⟩⟩
theorem wA_t1 : ∀ w ∈ wA_1, w ∈ lw_tbl := List.forall_mem_cons.mpr ⟨wt_40, List.forall_mem_cons.mpr ⟨wt_41, List.forall_mem_cons.mpr ⟨wt_42, List.forall_mem_cons.mpr ⟨wt_43, List.forall_mem_cons.mpr ⟨wt_44, List.forall_mem_cons.mpr ⟨wt_45, List.forall_mem_cons.mpr ⟨wt_46, List.forall_mem_cons.mpr ⟨wt_47, List.forall_mem_cons.mpr ⟨wt_48, List.forall_mem_cons.mpr ⟨wt_49, List.forall_mem_cons.mpr ⟨wt_50, List.forall_mem_cons.mpr ⟨wt_51, List.forall_mem_cons.mpr ⟨wt_52, List.forall_mem_cons.mpr ⟨wt_53, List.forall_mem_cons.mpr ⟨wt_54, List.forall_mem_cons.mpr ⟨wt_55, List.forall_mem_cons.mpr ⟨wt_56, List.forall_mem_cons.mpr ⟨wt_57, List.forall_mem_cons.mpr ⟨wt_58, List.forall_mem_cons.mpr ⟨wt_59, List.forall_mem_cons.mpr ⟨wt_60, List.forall_mem_cons.mpr ⟨wt_61, List.forall_mem_cons.mpr ⟨wt_62, List.forall_mem_cons.mpr ⟨wt_63, List.forall_mem_cons.mpr ⟨wt_64, List.forall_mem_cons.mpr ⟨wt_65, List.forall_mem_cons.mpr ⟨wt_66, List.forall_mem_cons.mpr ⟨wt_67, List.forall_mem_cons.mpr ⟨wt_68, List.forall_mem_cons.mpr ⟨wt_69, List.forall_mem_cons.mpr ⟨wt_70, List.forall_mem_cons.mpr ⟨wt_71, List.forall_mem_cons.mpr ⟨wt_72, List.forall_mem_cons.mpr ⟨wt_73, List.forall_mem_cons.mpr ⟨wt_74, List.forall_mem_cons.mpr ⟨wt_75, List.forall_mem_cons.mpr ⟨wt_76, List.forall_mem_cons.mpr ⟨wt_77, List.forall_mem_cons.mpr ⟨wt_78, List.forall_mem_cons.mpr ⟨wt_79, fun _ h => absurd h List.not_mem_nil⟩⟩⟩⟩⟩⟩⟩⟩⟩⟩⟩⟩⟩⟩⟩⟩⟩⟩⟩⟩⟩⟩⟩⟩⟩⟩⟩⟩⟩⟩⟩⟩⟩⟩⟩⟩⟩⟩⟩⟩
theorem wA_t2 : ∀ w ∈ wA_2, w ∈ lw_tbl := List.forall_mem_cons.mpr ⟨wt_80, List.forall_mem_cons.mpr ⟨wt_81, List.forall_mem_cons.mpr ⟨wt_82, List.forall_mem_cons.mpr ⟨wt_83, List.forall_mem_cons.mpr ⟨wt_84, List.forall_mem_cons.mpr ⟨wt_85, List.forall_mem_cons.mpr ⟨wt_86, List.forall_mem_cons.mpr ⟨wt_87, List.forall_mem_cons.mpr ⟨wt_88, List.forall_mem_cons.mpr ⟨wt_89, List.forall_mem_cons.mpr ⟨wt_90, List.forall_mem_cons.mpr ⟨wt_91, List.forall_mem_cons.mpr ⟨wt_92, List.forall_mem_cons.mpr ⟨wt_93, List.forall_mem_cons.mpr ⟨wt_94, List.forall_mem_cons.mpr ⟨wt_95, List.forall_mem_cons.mpr ⟨wt_96, List.forall_mem_cons.mpr ⟨wt_97, List.forall_mem_cons.mpr ⟨wt_98, List.forall_mem_cons.mpr ⟨wt_99, List.forall_mem_cons.mpr ⟨wt_100, List.forall_mem_cons.mpr ⟨wt_101, List.forall_mem_cons.mpr ⟨wt_102, List.forall_mem_cons.mpr ⟨wt_103, List.forall_mem_cons.mpr ⟨wt_104, List.forall_mem_cons.mpr ⟨wt_105, List.forall_mem_cons.mpr ⟨wt_106, List.forall_mem_cons.mpr ⟨wt_107, List.forall_mem_cons.mpr ⟨wt_108, List.forall_mem_cons.mpr ⟨wt_109, List.forall_mem_cons.mpr ⟨wt_110, List.forall_mem_cons.mpr ⟨wt_111, List.forall_mem_cons.mpr ⟨wt_112, List.forall_mem_cons.mpr ⟨wt_113, List.forall_mem_cons.mpr ⟨wt_114, List.forall_mem_cons.mpr ⟨wt_115, List.forall_mem_cons.mpr ⟨wt_116, List.forall_mem_cons.mpr ⟨wt_117, List.forall_mem_cons.mpr ⟨wt_118, List.forall_mem_cons.mpr ⟨wt_119, fun _ h => absurd h List.not_mem_nil⟩⟩⟩⟩⟩⟩⟩⟩⟩⟩⟩⟩⟩⟩⟩⟩⟩⟩⟩⟩⟩⟩⟩⟩⟩⟩⟩⟩⟩⟩⟩⟩⟩⟩⟩⟩⟩⟩⟩⟩
theorem wA_t3 : ∀ w ∈ wA_3, w ∈ lw_tbl := List.forall_mem_cons.mpr ⟨wt_120, List.forall_mem_cons.mpr ⟨wt_121, List.forall_mem_cons.mpr ⟨wt_122, List.forall_mem_cons.mpr ⟨wt_123, List.forall_mem_cons.mpr ⟨wt_124, List.forall_mem_cons.mpr ⟨wt_125, List.forall_mem_cons.mpr ⟨wt_126, List.forall_mem_cons.mpr ⟨wt_127, List.forall_mem_cons.mpr ⟨wt_128, List.forall_mem_cons.mpr ⟨wt_129, List.forall_mem_cons.mpr ⟨wt_130, List.forall_mem_cons.mpr ⟨wt_131, List.forall_mem_cons.mpr ⟨wt_132, List.forall_mem_cons.mpr ⟨wt_133, List.forall_mem_cons.mpr ⟨wt_134, List.forall_mem_cons.mpr ⟨wt_135, List.forall_mem_cons.mpr ⟨wt_136, List.forall_mem_cons.mpr ⟨wt_137, List.forall_mem_cons.mpr ⟨wt_138, List.forall_mem_cons.mpr ⟨wt_139, List.forall_mem_cons.mpr ⟨wt_140, List.forall_mem_cons.mpr ⟨wt_141, List.forall_mem_cons.mpr ⟨wt_142, List.forall_mem_cons.mpr ⟨wt_143, List.forall_mem_cons.mpr ⟨wt_144, List.forall_mem_cons.mpr ⟨wt_145, List.forall_mem_cons.mpr ⟨wt_146, List.forall_mem_cons.mpr ⟨wt_147, List.forall_mem_cons.mpr ⟨wt_148, List.forall_mem_cons.mpr ⟨wt_149, List.forall_mem_cons.mpr ⟨wt_150, List.forall_mem_cons.mpr ⟨wt_151, List.forall_mem_cons.mpr ⟨wt_152, List.forall_mem_cons.mpr ⟨wt_153, List.forall_mem_cons.mpr ⟨wt_154, List.forall_mem_cons.mpr ⟨wt_155, List.forall_mem_cons.mpr ⟨wt_156, List.forall_mem_cons.mpr ⟨wt_157, List.forall_mem_cons.mpr ⟨wt_158, List.forall_mem_cons.mpr ⟨wt_159, fun _ h => absurd h List.not_mem_nil⟩⟩⟩⟩⟩⟩⟩⟩⟩⟩⟩⟩⟩⟩⟩⟩⟩⟩⟩⟩⟩⟩⟩⟩⟩⟩⟩⟩⟩⟩⟩⟩⟩⟩⟩⟩⟩⟩⟩⟩
theorem wA_t4 : ∀ w ∈ wA_4, w ∈ lw_tbl := List.forall_mem_cons.mpr ⟨wt_160, List.forall_mem_cons.mpr ⟨wt_161, List.forall_mem_cons.mpr ⟨wt_162, List.forall_mem_cons.mpr ⟨wt_163, List.forall_mem_cons.mpr ⟨wt_164, List.forall_mem_cons.mpr ⟨wt_165, List.forall_mem_cons.mpr ⟨wt_166, List.forall_mem_cons.mpr ⟨wt_167, List.forall_mem_cons.mpr ⟨wt_168, List.forall_mem_cons.mpr ⟨wt_169, List.forall_mem_cons.mpr ⟨wt_170, List.forall_mem_cons.mpr ⟨wt_171, List.forall_mem_cons.mpr ⟨wt_172, List.forall_mem_cons.mpr ⟨wt_173, List.forall_mem_cons.mpr ⟨wt_174, List.forall_mem_cons.mpr ⟨wt_175, List.forall_mem_cons.mpr ⟨wt_176, List.forall_mem_cons.mpr ⟨wt_177, List.forall_mem_cons.mpr ⟨wt_178, List.forall_mem_cons.mpr ⟨wt_179, List.forall_mem_cons.mpr ⟨wt_180, List.forall_mem_cons.mpr ⟨wt_181, List.forall_mem_cons.mpr ⟨wt_182, List.forall_mem_cons.mpr ⟨wt_183, List.forall_mem_cons.mpr ⟨wt_184, List.forall_mem_cons.mpr ⟨wt_185, List.forall_mem_cons.mpr ⟨wt_186, List.forall_mem_cons.mpr ⟨wt_187, List.forall_mem_cons.mpr ⟨wt_188, List.forall_mem_cons.mpr ⟨wt_189, List.forall_mem_cons.mpr ⟨wt_190, List.forall_mem_cons.mpr ⟨wt_191, List.forall_mem_cons.mpr ⟨wt_192, List.forall_mem_cons.mpr ⟨wt_193, List.forall_mem_cons.mpr ⟨wt_194, List.forall_mem_cons.mpr ⟨wt_195, List.forall_mem_cons.mpr ⟨wt_196, List.forall_mem_cons.mpr ⟨wt_197, List.forall_mem_cons.mpr ⟨wt_198, List.forall_mem_cons.mpr ⟨wt_199, fun _ h => absurd h List.not_mem_nil⟩⟩⟩⟩⟩⟩⟩⟩⟩⟩⟩⟩⟩⟩⟩⟩⟩⟩⟩⟩⟩⟩⟩⟩⟩⟩⟩⟩⟩⟩⟩⟩⟩⟩⟩⟩⟩⟩⟩⟩
theorem wA_t5 : ∀ w ∈ wA_5, w ∈ lw_tbl := List.forall_mem_cons.mpr ⟨wt_200, List.forall_mem_cons.mpr ⟨wt_201, List.forall_mem_cons.mpr ⟨wt_202, List.forall_mem_cons.mpr ⟨wt_203, List.forall_mem_cons.mpr ⟨wt_204, List.forall_mem_cons.mpr ⟨wt_205, List.forall_mem_cons.mpr ⟨wt_206, List.forall_mem_cons.mpr ⟨wt_207, List.forall_mem_cons.mpr ⟨wt_208, List.forall_mem_cons.mpr ⟨wt_209, List.forall_mem_cons.mpr ⟨wt_210, List.forall_mem_cons.mpr ⟨wt_211, List.forall_mem_cons.mpr ⟨wt_212, List.forall_mem_cons.mpr ⟨wt_213, List.forall_mem_cons.mpr ⟨wt_214, List.forall_mem_cons.mpr ⟨wt_215, List.forall_mem_cons.mpr ⟨wt_216, List.forall_mem_cons.mpr ⟨wt_217, List.forall_mem_cons.mpr ⟨wt_218, List.forall_mem_cons.mpr ⟨wt_219, List.forall_mem_cons.mpr ⟨wt_220, List.forall_mem_cons.mpr ⟨wt_221, List.forall_mem_cons.mpr ⟨wt_222, List.forall_mem_cons.mpr ⟨wt_223, List.forall_mem_cons.mpr ⟨wt_224, List.forall_mem_cons.mpr ⟨wt_225, List.forall_mem_cons.mpr ⟨wt_226, List.forall_mem_cons.mpr ⟨wt_227, List.forall_mem_cons.mpr ⟨wt_228, List.forall_mem_cons.mpr ⟨wt_229, List.forall_mem_cons.mpr ⟨wt_230, List.forall_mem_cons.mpr ⟨wt_231, List.forall_mem_cons.mpr ⟨wt_232, List.forall_mem_cons.mpr ⟨wt_233, List.forall_mem_cons.mpr ⟨wt_234, List.forall_mem_cons.mpr ⟨wt_235, List.forall_mem_cons.mpr ⟨wt_236, List.forall_mem_cons.mpr ⟨wt_237, List.forall_mem_cons.mpr ⟨wt_238, List.forall_mem_cons.mpr ⟨wt_239, fun _ h => absurd h List.not_mem_nil⟩⟩⟩⟩⟩⟩⟩⟩⟩⟩⟩⟩⟩⟩⟩⟩⟩⟩⟩⟩⟩⟩⟩⟩⟩⟩⟩⟩⟩⟩⟩⟩⟩⟩⟩⟩⟩⟩⟩⟩
theorem wA_t6 : ∀ w ∈ wA_6, w ∈ lw_tbl := List.forall_mem_cons.mpr ⟨wt_240, List.forall_mem_cons.mpr ⟨wt_241, List.forall_mem_cons.mpr ⟨wt_242, List.forall_mem_cons.mpr ⟨wt_243, List.forall_mem_cons.mpr ⟨wt_244, List.forall_mem_cons.mpr ⟨wt_245, List.forall_mem_cons.mpr ⟨wt_246, List.forall_mem_cons.mpr ⟨wt_247, List.forall_mem_cons.mpr ⟨wt_248, List.forall_mem_cons.mpr ⟨wt_249, List.forall_mem_cons.mpr ⟨wt_250, List.forall_mem_cons.mpr ⟨wt_251, List.forall_mem_cons.mpr ⟨wt_252, List.forall_mem_cons.mpr ⟨wt_253, List.forall_mem_cons.mpr ⟨wt_254, List.forall_mem_cons.mpr ⟨wt_255, List.forall_mem_cons.mpr ⟨wt_256, List.forall_mem_cons.mpr ⟨wt_257, List.forall_mem_cons.mpr ⟨wt_258, List.forall_mem_cons.mpr ⟨wt_259, List.forall_mem_cons.mpr ⟨wt_260, List.forall_mem_cons.mpr ⟨wt_261, List.forall_mem_cons.mpr ⟨wt_262, List.forall_mem_cons.mpr ⟨wt_263, List.forall_mem_cons.mpr ⟨wt_264, List.forall_mem_cons.mpr ⟨wt_265, List.forall_mem_cons.mpr ⟨wt_266, List.forall_mem_cons.mpr ⟨wt_267, List.forall_mem_cons.mpr ⟨wt_268, List.forall_mem_cons.mpr ⟨wt_269, List.forall_mem_cons.mpr ⟨wt_270, List.forall_mem_cons.mpr ⟨wt_271, List.forall_mem_cons.mpr ⟨wt_272, List.forall_mem_cons.mpr ⟨wt_273, List.forall_mem_cons.mpr ⟨wt_274, List.forall_mem_cons.mpr ⟨wt_275, List.forall_mem_cons.mpr ⟨wt_276, List.forall_mem_cons.mpr ⟨wt_277, List.forall_mem_cons.mpr ⟨wt_278, List.forall_mem_cons.mpr ⟨wt_279, fun _ h => absurd h List.not_mem_nil⟩⟩⟩⟩⟩⟩⟩⟩⟩⟩⟩⟩⟩⟩⟩⟩⟩⟩⟩⟩⟩⟩⟩⟩⟩⟩⟩⟩⟩⟩⟩⟩⟩⟩⟩⟩⟩⟩⟩⟩
theorem wA_t7 : ∀ w ∈ wA_7, w ∈ lw_tbl := List.forall_mem_cons.mpr ⟨wt_280, List.forall_mem_cons.mpr ⟨wt_281, List.forall_mem_cons.mpr ⟨wt_282, List.forall_mem_cons.mpr ⟨wt_283, List.forall_mem_cons.mpr ⟨wt_284, List.forall_mem_cons.mpr ⟨wt_285, List.forall_mem_cons.mpr ⟨wt_286, List.forall_mem_cons.mpr ⟨wt_287, List.forall_mem_cons.mpr ⟨wt_288, List.forall_mem_cons.mpr ⟨wt_289, List.forall_mem_cons.mpr ⟨wt_290, List.forall_mem_cons.mpr ⟨wt_291, List.forall_mem_cons.mpr ⟨wt_292, List.forall_mem_cons.mpr ⟨wt_293, List.forall_mem_cons.mpr ⟨wt_294, List.forall_mem_cons.mpr ⟨wt_295, List.forall_mem_cons.mpr ⟨wt_296, List.forall_mem_cons.mpr ⟨wt_297, List.forall_mem_cons.mpr ⟨wt_298, List.forall_mem_cons.mpr ⟨wt_299, List.forall_mem_cons.mpr ⟨wt_300, List.forall_mem_cons.mpr ⟨wt_301, List.forall_mem_cons.mpr ⟨wt_302, List.forall_mem_cons.mpr ⟨wt_303, List.forall_mem_cons.mpr ⟨wt_304, List.forall_mem_cons.mpr ⟨wt_305, List.forall_mem_cons.mpr ⟨wt_306, List.forall_mem_cons.mpr ⟨wt_307, List.forall_mem_cons.mpr ⟨wt_308, List.forall_mem_cons.mpr ⟨wt_309, List.forall_mem_cons.mpr ⟨wt_310, List.forall_mem_cons.mpr ⟨wt_311, List.forall_mem_cons.mpr ⟨wt_312, List.forall_mem_cons.mpr ⟨wt_313, List.forall_mem_cons.mpr ⟨wt_314, List.forall_mem_cons.mpr ⟨wt_315, List.forall_mem_cons.mpr ⟨wt_316, List.forall_mem_cons.mpr ⟨wt_317, List.forall_mem_cons.mpr ⟨wt_318, List.forall_mem_cons.mpr ⟨wt_319, fun _ h => absurd h List.not_mem_nil⟩⟩⟩⟩⟩⟩⟩⟩⟩⟩⟩⟩⟩⟩⟩⟩⟩⟩⟩⟩⟩⟩⟩⟩⟩⟩⟩⟩⟩⟩⟩⟩⟩⟩⟩⟩⟩⟩⟩⟩
theorem wA_t8 : ∀ w ∈ wA_8, w ∈ lw_tbl := List.forall_mem_cons.mpr ⟨wt_320, List.forall_mem_cons.mpr ⟨wt_321, List.forall_mem_cons.mpr ⟨wt_322, List.forall_mem_cons.mpr ⟨wt_323, List.forall_mem_cons.mpr ⟨wt_324, List.forall_mem_cons.mpr ⟨wt_325, List.forall_mem_cons.mpr ⟨wt_326, List.forall_mem_cons.mpr ⟨wt_327, List.forall_mem_cons.mpr ⟨wt_328, List.forall_mem_cons.mpr ⟨wt_329, List.forall_mem_cons.mpr ⟨wt_330, List.forall_mem_cons.mpr ⟨wt_331, List.forall_mem_cons.mpr ⟨wt_332, List.forall_mem_cons.mpr ⟨wt_333, List.forall_mem_cons.mpr ⟨wt_334, List.forall_mem_cons.mpr ⟨wt_335, List.forall_mem_cons.mpr ⟨wt_336, List.forall_mem_cons.mpr ⟨wt_337, List.forall_mem_cons.mpr ⟨wt_338, List.forall_mem_cons.mpr ⟨wt_339, List.forall_mem_cons.mpr ⟨wt_340, List.forall_mem_cons.mpr ⟨wt_341, List.forall_mem_cons.mpr ⟨wt_342, List.forall_mem_cons.mpr ⟨wt_343, List.forall_mem_cons.mpr ⟨wt_344, List.forall_mem_cons.mpr ⟨wt_345, List.forall_mem_cons.mpr ⟨wt_346, List.forall_mem_cons.mpr ⟨wt_347, List.forall_mem_cons.mpr ⟨wt_348, List.forall_mem_cons.mpr ⟨wt_349, List.forall_mem_cons.mpr ⟨wt_350, List.forall_mem_cons.mpr ⟨wt_351, List.forall_mem_cons.mpr ⟨wt_352, List.forall_mem_cons.mpr ⟨wt_353, List.forall_mem_cons.mpr ⟨wt_354, List.forall_mem_cons.mpr ⟨wt_355, List.forall_mem_cons.mpr ⟨wt_356, List.forall_mem_cons.mpr ⟨wt_357, List.forall_mem_cons.mpr ⟨wt_358, List.forall_mem_cons.mpr ⟨wt_359, fun _ h => absurd h List.not_mem_nil⟩⟩⟩⟩⟩⟩⟩⟩⟩⟩⟩⟩⟩⟩⟩⟩⟩⟩⟩⟩⟩⟩⟩⟩⟩⟩⟩⟩⟩⟩⟩⟩⟩⟩⟩⟩⟩⟩⟩⟩
theorem wA_t9 : ∀ w ∈ wA_9, w ∈ lw_tbl := List.forall_mem_cons.mpr ⟨wt_360, List.forall_mem_cons.mpr ⟨wt_361, List.forall_mem_cons.mpr ⟨wt_362, List.forall_mem_cons.mpr ⟨wt_363, List.forall_mem_cons.mpr ⟨wt_364, List.forall_mem_cons.mpr ⟨wt_365, List.forall_mem_cons.mpr ⟨wt_366, List.forall_mem_cons.mpr ⟨wt_367, List.forall_mem_cons.mpr ⟨wt_368, List.forall_mem_cons.mpr ⟨wt_369, List.forall_mem_cons.mpr ⟨wt_370, List.forall_mem_cons.mpr ⟨wt_371, List.forall_mem_cons.mpr ⟨wt_372, List.forall_mem_cons.mpr ⟨wt_373, List.forall_mem_cons.mpr ⟨wt_374, List.forall_mem_cons.mpr ⟨wt_375, List.forall_mem_cons.mpr ⟨wt_376, List.forall_mem_cons.mpr ⟨wt_377, List.forall_mem_cons.mpr ⟨wt_378, List.forall_mem_cons.mpr ⟨wt_379, List.forall_mem_cons.mpr ⟨wt_380, List.forall_mem_cons.mpr ⟨wt_381, List.forall_mem_cons.mpr ⟨wt_382, List.forall_mem_cons.mpr ⟨wt_383, List.forall_mem_cons.mpr ⟨wt_384, List.forall_mem_cons.mpr ⟨wt_385, List.forall_mem_cons.mpr ⟨wt_386, List.forall_mem_cons.mpr ⟨wt_387, List.forall_mem_cons.mpr ⟨wt_388, List.forall_mem_cons.mpr ⟨wt_389, List.forall_mem_cons.mpr ⟨wt_390, List.forall_mem_cons.mpr ⟨wt_391, List.forall_mem_cons.mpr ⟨wt_392, List.forall_mem_cons.mpr ⟨wt_393, List.forall_mem_cons.mpr ⟨wt_394, List.forall_mem_cons.mpr ⟨wt_395, List.forall_mem_cons.mpr ⟨wt_396, List.forall_mem_cons.mpr ⟨wt_397, List.forall_mem_cons.mpr ⟨wt_398, List.forall_mem_cons.mpr ⟨wt_399, fun _ h => absurd h List.not_mem_nil⟩⟩⟩⟩⟩⟩⟩⟩⟩⟩⟩⟩⟩⟩⟩⟩⟩⟩⟩⟩⟩⟩⟩⟩⟩⟩⟩⟩⟩⟩⟩⟩⟩⟩⟩⟩⟩⟩⟩⟩
theorem wA_t10 : ∀ w ∈ wA_10, w ∈ lw_tbl := List.forall_mem_cons.mpr ⟨wt_400, List.forall_mem_cons.mpr ⟨wt_401, List.forall_mem_cons.mpr ⟨wt_402, List.forall_mem_cons.mpr ⟨wt_403, List.forall_mem_cons.mpr ⟨wt_404, List.forall_mem_cons.mpr ⟨wt_405, List.forall_mem_cons.mpr ⟨wt_406, List.forall_mem_cons.mpr ⟨wt_407, List.forall_mem_cons.mpr ⟨wt_408, List.forall_mem_cons.mpr ⟨wt_409, List.forall_mem_cons.mpr ⟨wt_410, List.forall_mem_cons.mpr ⟨wt_411, List.forall_mem_cons.mpr ⟨wt_412, List.forall_mem_cons.mpr ⟨wt_413, List.forall_mem_cons.mpr ⟨wt_414, List.forall_mem_cons.mpr ⟨wt_415, List.forall_mem_cons.mpr ⟨wt_416, List.forall_mem_cons.mpr ⟨wt_417, List.forall_mem_cons.mpr ⟨wt_418, List.forall_mem_cons.mpr ⟨wt_419, List.forall_mem_cons.mpr ⟨wt_420, List.forall_mem_cons.mpr ⟨wt_421, List.forall_mem_cons.mpr ⟨wt_422, List.forall_mem_cons.mpr ⟨wt_423, List.forall_mem_cons.mpr ⟨wt_424, List.forall_mem_cons.mpr ⟨wt_425, List.forall_mem_cons.mpr ⟨wt_426, List.forall_mem_cons.mpr ⟨wt_427, List.forall_mem_cons.mpr ⟨wt_428, List.forall_mem_cons.mpr ⟨wt_429, List.forall_mem_cons.mpr ⟨wt_430, List.forall_mem_cons.mpr ⟨wt_431, List.forall_mem_cons.mpr ⟨wt_432, List.forall_mem_cons.mpr ⟨wt_433, List.forall_mem_cons.mpr ⟨wt_434, List.forall_mem_cons.mpr ⟨wt_435, List.forall_mem_cons.mpr ⟨wt_436, List.forall_mem_cons.mpr ⟨wt_437, List.forall_mem_cons.mpr ⟨wt_438, List.forall_mem_cons.mpr ⟨wt_439, fun _ h => absurd h List.not_mem_nil⟩⟩⟩⟩⟩⟩⟩⟩⟩⟩⟩⟩⟩⟩⟩⟩⟩⟩⟩⟩⟩⟩⟩⟩⟩⟩⟩⟩⟩⟩⟩⟩⟩⟩⟩⟩⟩⟩⟩⟩
theorem wA_t11 : ∀ w ∈ wA_11, w ∈ lw_tbl := List.forall_mem_cons.mpr ⟨wt_440, List.forall_mem_cons.mpr ⟨wt_441, List.forall_mem_cons.mpr ⟨wt_442, List.forall_mem_cons.mpr ⟨wt_443, List.forall_mem_cons.mpr ⟨wt_444, List.forall_mem_cons.mpr ⟨wt_445, List.forall_mem_cons.mpr ⟨wt_446, List.forall_mem_cons.mpr ⟨wt_447, List.forall_mem_cons.mpr ⟨wt_448, List.forall_mem_cons.mpr ⟨wt_449, List.forall_mem_cons.mpr ⟨wt_450, List.forall_mem_cons.mpr ⟨wt_451, List.forall_mem_cons.mpr ⟨wt_452, List.forall_mem_cons.mpr ⟨wt_453, List.forall_mem_cons.mpr ⟨wt_454, List.forall_mem_cons.mpr ⟨wt_455, List.forall_mem_cons.mpr ⟨wt_456, List.forall_mem_cons.mpr ⟨wt_457, List.forall_mem_cons.mpr ⟨wt_458, List.forall_mem_cons.mpr ⟨wt_459, List.forall_mem_cons.mpr ⟨wt_460, List.forall_mem_cons.mpr ⟨wt_461, List.forall_mem_cons.mpr ⟨wt_462, List.forall_mem_cons.mpr ⟨wt_463, List.forall_mem_cons.mpr ⟨wt_464, List.forall_mem_cons.mpr ⟨wt_465, List.forall_mem_cons.mpr ⟨wt_466, List.forall_mem_cons.mpr ⟨wt_467, List.forall_mem_cons.mpr ⟨wt_468, List.forall_mem_cons.mpr ⟨wt_469, List.forall_mem_cons.mpr ⟨wt_470, List.forall_mem_cons.mpr ⟨wt_471, List.forall_mem_cons.mpr ⟨wt_472, List.forall_mem_cons.mpr ⟨wt_473, List.forall_mem_cons.mpr ⟨wt_474, List.forall_mem_cons.mpr ⟨wt_475, List.forall_mem_cons.mpr ⟨wt_476, List.forall_mem_cons.mpr ⟨wt_477, List.forall_mem_cons.mpr ⟨wt_478, List.forall_mem_cons.mpr ⟨wt_479, fun _ h => absurd h List.not_mem_nil⟩⟩⟩⟩⟩⟩⟩⟩⟩⟩⟩⟩⟩⟩⟩⟩⟩⟩⟩⟩⟩⟩⟩⟩⟩⟩⟩⟩⟩⟩⟩⟩⟩⟩⟩⟩⟩⟩⟩⟩
theorem wA_t12 : ∀ w ∈ wA_12, w ∈ lw_tbl := List.forall_mem_cons.mpr ⟨wt_480, List.forall_mem_cons.mpr ⟨wt_481, List.forall_mem_cons.mpr ⟨wt_482, List.forall_mem_cons.mpr ⟨wt_483, List.forall_mem_cons.mpr ⟨wt_484, List.forall_mem_cons.mpr ⟨wt_485, List.forall_mem_cons.mpr ⟨wt_486, List.forall_mem_cons.mpr ⟨wt_487, List.forall_mem_cons.mpr ⟨wt_488, List.forall_mem_cons.mpr ⟨wt_489, List.forall_mem_cons.mpr ⟨wt_490, List.forall_mem_cons.mpr ⟨wt_491, List.forall_mem_cons.mpr ⟨wt_492, List.forall_mem_cons.mpr ⟨wt_493, List.forall_mem_cons.mpr ⟨wt_494, List.forall_mem_cons.mpr ⟨wt_495, List.forall_mem_cons.mpr ⟨wt_496, List.forall_mem_cons.mpr ⟨wt_497, List.forall_mem_cons.mpr ⟨wt_498, List.forall_mem_cons.mpr ⟨wt_499, List.forall_mem_cons.mpr ⟨wt_500, List.forall_mem_cons.mpr ⟨wt_501, List.forall_mem_cons.mpr ⟨wt_502, List.forall_mem_cons.mpr ⟨wt_503, List.forall_mem_cons.mpr ⟨wt_504, List.forall_mem_cons.mpr ⟨wt_505, List.forall_mem_cons.mpr ⟨wt_506, List.forall_mem_cons.mpr ⟨wt_507, List.forall_mem_cons.mpr ⟨wt_508, List.forall_mem_cons.mpr ⟨wt_509, List.forall_mem_cons.mpr ⟨wt_510, List.forall_mem_cons.mpr ⟨wt_511, List.forall_mem_cons.mpr ⟨wt_512, List.forall_mem_cons.mpr ⟨wt_513, List.forall_mem_cons.mpr ⟨wt_514, List.forall_mem_cons.mpr ⟨wt_515, List.forall_mem_cons.mpr ⟨wt_516, List.forall_mem_cons.mpr ⟨wt_517, List.forall_mem_cons.mpr ⟨wt_518, List.forall_mem_cons.mpr ⟨wt_519, fun _ h => absurd h List.not_mem_nil⟩⟩⟩⟩⟩⟩⟩⟩⟩⟩⟩⟩⟩⟩⟩⟩⟩⟩⟩⟩⟩⟩⟩⟩⟩⟩⟩⟩⟩⟩⟩⟩⟩⟩⟩⟩⟩⟩⟩⟩
theorem wA_t13 : ∀ w ∈ wA_13, w ∈ lw_tbl := List.forall_mem_cons.mpr ⟨wt_520, List.forall_mem_cons.mpr ⟨wt_521, List.forall_mem_cons.mpr ⟨wt_522, List.forall_mem_cons.mpr ⟨wt_523, List.forall_mem_cons.mpr ⟨wt_524, List.forall_mem_cons.mpr ⟨wt_525, List.forall_mem_cons.mpr ⟨wt_526, List.forall_mem_cons.mpr ⟨wt_527, List.forall_mem_cons.mpr ⟨wt_528, List.forall_mem_cons.mpr ⟨wt_529, List.forall_mem_cons.mpr ⟨wt_530, List.forall_mem_cons.mpr ⟨wt_531, List.forall_mem_cons.mpr ⟨wt_532, List.forall_mem_cons.mpr ⟨wt_533, List.forall_mem_cons.mpr ⟨wt_534, List.forall_mem_cons.mpr ⟨wt_535, List.forall_mem_cons.mpr ⟨wt_536, List.forall_mem_cons.mpr ⟨wt_537, List.forall_mem_cons.mpr ⟨wt_538, List.forall_mem_cons.mpr ⟨wt_539, List.forall_mem_cons.mpr ⟨wt_540, List.forall_mem_cons.mpr ⟨wt_541, List.forall_mem_cons.mpr ⟨wt_542, List.forall_mem_cons.mpr ⟨wt_543, List.forall_mem_cons.mpr ⟨wt_544, List.forall_mem_cons.mpr ⟨wt_545, List.forall_mem_cons.mpr ⟨wt_546, List.forall_mem_cons.mpr ⟨wt_547, List.forall_mem_cons.mpr ⟨wt_548, List.forall_mem_cons.mpr ⟨wt_549, List.forall_mem_cons.mpr ⟨wt_550, List.forall_mem_cons.mpr ⟨wt_551, List.forall_mem_cons.mpr ⟨wt_552, List.forall_mem_cons.mpr ⟨wt_553, List.forall_mem_cons.mpr ⟨wt_554, List.forall_mem_cons.mpr ⟨wt_555, List.forall_mem_cons.mpr ⟨wt_556, List.forall_mem_cons.mpr ⟨wt_557, List.forall_mem_cons.mpr ⟨wt_558, List.forall_mem_cons.mpr ⟨wt_559, fun _ h => absurd h List.not_mem_nil⟩⟩⟩⟩⟩⟩⟩⟩⟩⟩⟩⟩⟩⟩⟩⟩⟩⟩⟩⟩⟩⟩⟩⟩⟩⟩⟩⟩⟩⟩⟩⟩⟩⟩⟩⟩⟩⟩⟩⟩
theorem wA_t14 : ∀ w ∈ wA_14, w ∈ lw_tbl := List.forall_mem_cons.mpr ⟨wt_560, List.forall_mem_cons.mpr ⟨wt_561, List.forall_mem_cons.mpr ⟨wt_562, List.forall_mem_cons.mpr ⟨wt_563, List.forall_mem_cons.mpr ⟨wt_564, List.forall_mem_cons.mpr ⟨wt_565, List.forall_mem_cons.mpr ⟨wt_566, List.forall_mem_cons.mpr ⟨wt_567, List.forall_mem_cons.mpr ⟨wt_568, List.forall_mem_cons.mpr ⟨wt_569, List.forall_mem_cons.mpr ⟨wt_570, List.forall_mem_cons.mpr ⟨wt_571, List.forall_mem_cons.mpr ⟨wt_572, List.forall_mem_cons.mpr ⟨wt_573, List.forall_mem_cons.mpr ⟨wt_574, List.forall_mem_cons.mpr ⟨wt_575, List.forall_mem_cons.mpr ⟨wt_576, List.forall_mem_cons.mpr ⟨wt_577, List.forall_mem_cons.mpr ⟨wt_578, List.forall_mem_cons.mpr ⟨wt_579, List.forall_mem_cons.mpr ⟨wt_580, List.forall_mem_cons.mpr ⟨wt_581, List.forall_mem_cons.mpr ⟨wt_582, List.forall_mem_cons.mpr ⟨wt_583, List.forall_mem_cons.mpr ⟨wt_584, List.forall_mem_cons.mpr ⟨wt_585, List.forall_mem_cons.mpr ⟨wt_586, List.forall_mem_cons.mpr ⟨wt_587, List.forall_mem_cons.mpr ⟨wt_588, List.forall_mem_cons.mpr ⟨wt_589, List.forall_mem_cons.mpr ⟨wt_590, List.forall_mem_cons.mpr ⟨wt_591, List.forall_mem_cons.mpr ⟨wt_592, List.forall_mem_cons.mpr ⟨wt_593, List.forall_mem_cons.mpr ⟨wt_594, List.forall_mem_cons.mpr ⟨wt_595, List.forall_mem_cons.mpr ⟨wt_596, List.forall_mem_cons.mpr ⟨wt_597, List.forall_mem_cons.mpr ⟨wt_598, List.forall_mem_cons.mpr ⟨wt_599, fun _ h => absurd h List.not_mem_nil⟩⟩⟩⟩⟩⟩⟩⟩⟩⟩⟩⟩⟩⟩⟩⟩⟩⟩⟩⟩⟩⟩⟩⟩⟩⟩⟩⟩⟩⟩⟩⟩⟩⟩⟩⟩⟩⟩⟩⟩
theorem wA_t15 : ∀ w ∈ wA_15, w ∈ lw_tbl := List.forall_mem_cons.mpr ⟨wt_600, List.forall_mem_cons.mpr ⟨wt_601, List.forall_mem_cons.mpr ⟨wt_602, List.forall_mem_cons.mpr ⟨wt_603, List.forall_mem_cons.mpr ⟨wt_604, List.forall_mem_cons.mpr ⟨wt_605, List.forall_mem_cons.mpr ⟨wt_606, List.forall_mem_cons.mpr ⟨wt_607, List.forall_mem_cons.mpr ⟨wt_608, List.forall_mem_cons.mpr ⟨wt_609, List.forall_mem_cons.mpr ⟨wt_610, List.forall_mem_cons.mpr ⟨wt_611, List.forall_mem_cons.mpr ⟨wt_612, List.forall_mem_cons.mpr ⟨wt_613, List.forall_mem_cons.mpr ⟨wt_614, List.forall_mem_cons.mpr ⟨wt_615, List.forall_mem_cons.mpr ⟨wt_616, List.forall_mem_cons.mpr ⟨wt_617, List.forall_mem_cons.mpr ⟨wt_618, List.forall_mem_cons.mpr ⟨wt_619, List.forall_mem_cons.mpr ⟨wt_620, List.forall_mem_cons.mpr ⟨wt_621, List.forall_mem_cons.mpr ⟨wt_622, List.forall_mem_cons.mpr ⟨wt_623, List.forall_mem_cons.mpr ⟨wt_624, List.forall_mem_cons.mpr ⟨wt_625, List.forall_mem_cons.mpr ⟨wt_626, List.forall_mem_cons.mpr ⟨wt_627, List.forall_mem_cons.mpr ⟨wt_628, List.forall_mem_cons.mpr ⟨wt_629, List.forall_mem_cons.mpr ⟨wt_630, List.forall_mem_cons.mpr ⟨wt_631, List.forall_mem_cons.mpr ⟨wt_632, List.forall_mem_cons.mpr ⟨wt_633, List.forall_mem_cons.mpr ⟨wt_634, List.forall_mem_cons.mpr ⟨wt_635, List.forall_mem_cons.mpr ⟨wt_636, List.forall_mem_cons.mpr ⟨wt_637, List.forall_mem_cons.mpr ⟨wt_638, List.forall_mem_cons.mpr ⟨wt_639, fun _ h => absurd h List.not_mem_nil⟩⟩⟩⟩⟩⟩⟩⟩⟩⟩⟩⟩⟩⟩⟩⟩⟩⟩⟩⟩⟩⟩⟩⟩⟩⟩⟩⟩⟩⟩⟩⟩⟩⟩⟩⟩⟩⟩⟩⟩
theorem wA_t16 : ∀ w ∈ wA_16, w ∈ lw_tbl := List.forall_mem_cons.mpr ⟨wt_640, List.forall_mem_cons.mpr ⟨wt_641, List.forall_mem_cons.mpr ⟨wt_642, List.forall_mem_cons.mpr ⟨wt_643, List.forall_mem_cons.mpr ⟨wt_644, List.forall_mem_cons.mpr ⟨wt_645, List.forall_mem_cons.mpr ⟨wt_646, List.forall_mem_cons.mpr ⟨wt_647, List.forall_mem_cons.mpr ⟨wt_648, List.forall_mem_cons.mpr ⟨wt_649, List.forall_mem_cons.mpr ⟨wt_650, List.forall_mem_cons.mpr ⟨wt_651, List.forall_mem_cons.mpr ⟨wt_652, List.forall_mem_cons.mpr ⟨wt_653, List.forall_mem_cons.mpr ⟨wt_654, List.forall_mem_cons.mpr ⟨wt_655, List.forall_mem_cons.mpr ⟨wt_656, List.forall_mem_cons.mpr ⟨wt_657, List.forall_mem_cons.mpr ⟨wt_658, List.forall_mem_cons.mpr ⟨wt_659, List.forall_mem_cons.mpr ⟨wt_660, List.forall_mem_cons.mpr ⟨wt_661, List.forall_mem_cons.mpr ⟨wt_662, List.forall_mem_cons.mpr ⟨wt_663, List.forall_mem_cons.mpr ⟨wt_664, List.forall_mem_cons.mpr ⟨wt_665, List.forall_mem_cons.mpr ⟨wt_666, List.forall_mem_cons.mpr ⟨wt_667, List.forall_mem_cons.mpr ⟨wt_668, List.forall_mem_cons.mpr ⟨wt_669, List.forall_mem_cons.mpr ⟨wt_670, List.forall_mem_cons.mpr ⟨wt_671, List.forall_mem_cons.mpr ⟨wt_672, List.forall_mem_cons.mpr ⟨wt_673, List.forall_mem_cons.mpr ⟨wt_674, List.forall_mem_cons.mpr ⟨wt_675, List.forall_mem_cons.mpr ⟨wt_676, List.forall_mem_cons.mpr ⟨wt_677, List.forall_mem_cons.mpr ⟨wt_678, List.forall_mem_cons.mpr ⟨wt_679, fun _ h => absurd h List.not_mem_nil⟩⟩⟩⟩⟩⟩⟩⟩⟩⟩⟩⟩⟩⟩⟩⟩⟩⟩⟩⟩⟩⟩⟩⟩⟩⟩⟩⟩⟩⟩⟩⟩⟩⟩⟩⟩⟩⟩⟩⟩
theorem wA_t17 : ∀ w ∈ wA_17, w ∈ lw_tbl := List.forall_mem_cons.mpr ⟨wt_680, List.forall_mem_cons.mpr ⟨wt_681, List.forall_mem_cons.mpr ⟨wt_682, List.forall_mem_cons.mpr ⟨wt_683, List.forall_mem_cons.mpr ⟨wt_684, List.forall_mem_cons.mpr ⟨wt_685, List.forall_mem_cons.mpr ⟨wt_686, List.forall_mem_cons.mpr ⟨wt_687, List.forall_mem_cons.mpr ⟨wt_688, List.forall_mem_cons.mpr ⟨wt_689, List.forall_mem_cons.mpr ⟨wt_690, List.forall_mem_cons.mpr ⟨wt_691, List.forall_mem_cons.mpr ⟨wt_692, List.forall_mem_cons.mpr ⟨wt_693, List.forall_mem_cons.mpr ⟨wt_694, List.forall_mem_cons.mpr ⟨wt_695, fun _ h => absurd h List.not_mem_nil⟩⟩⟩⟩⟩⟩⟩⟩⟩⟩⟩⟩⟩⟩⟩⟩
theorem wA_tbl : ∀ w ∈ wA, w ∈ lw_tbl := (List.forall_mem_append.mpr ⟨wA_t0, (List.forall_mem_append.mpr ⟨wA_t1, (List.forall_mem_append.mpr ⟨wA_t2, (List.forall_mem_append.mpr ⟨wA_t3, (List.forall_mem_append.mpr ⟨wA_t4, (List.forall_mem_append.mpr ⟨wA_t5, (List.forall_mem_append.mpr ⟨wA_t6, (List.forall_mem_append.mpr ⟨wA_t7, (List.forall_mem_append.mpr ⟨wA_t8, (List.forall_mem_append.mpr ⟨wA_t9, (List.forall_mem_append.mpr ⟨wA_t10, (List.forall_mem_append.mpr ⟨wA_t11, (List.forall_mem_append.mpr ⟨wA_t12, (List.forall_mem_append.mpr ⟨wA_t13, (List.forall_mem_append.mpr ⟨wA_t14, (List.forall_mem_append.mpr ⟨wA_t15, (List.forall_mem_append.mpr ⟨wA_t16, wA_t17⟩)⟩)⟩)⟩)⟩)⟩)⟩)⟩)⟩)⟩)⟩)⟩)⟩)⟩)⟩)⟩)⟩)
theorem wA_good : wA.all goodWord = true := by decide +kernel
theorem inP : ∀ w ∈ u_ws rP tP 3, w ∈ wA := by
  intro w h
  obtain ⟨k, hk, rfl⟩ := List.mem_map.mp h
  have hk := List.mem_range.mp hk
  match k, hk with
  | 0, _ => exact wi_35
  | 1, _ => exact wi_37
  | 2, _ => exact wi_39
  | n + 3, h => exact absurd h (by omega)
theorem inA : ∀ w ∈ u_ws rA tA 3, w ∈ wA := by
  intro w h
  obtain ⟨k, hk, rfl⟩ := List.mem_map.mp h
  have hk := List.mem_range.mp hk
  match k, hk with
  | 0, _ => exact wi_262
  | 1, _ => exact wi_264
  | 2, _ => exact wi_266
  | n + 3, h => exact absurd h (by omega)
theorem inM : ∀ w ∈ u_ws rM tM 2, w ∈ wA := by
  intro w h
  obtain ⟨k, hk, rfl⟩ := List.mem_map.mp h
  have hk := List.mem_range.mp hk
  match k, hk with
  | 0, _ => exact wi_51
  | 1, _ => exact wi_53
  | n + 2, h => exact absurd h (by omega)
theorem inW : ∀ w ∈ u_ws rW tW 8, w ∈ wA := by
  intro w h
  obtain ⟨k, hk, rfl⟩ := List.mem_map.mp h
  have hk := List.mem_range.mp hk
  match k, hk with
  | 0, _ => exact wi_69
  | 1, _ => exact wi_71
  | 2, _ => exact wi_73
  | 3, _ => exact wi_75
  | 4, _ => exact wi_77
  | 5, _ => exact wi_79
  | 6, _ => exact wi_81
  | 7, _ => exact wi_83
  | n + 8, h => exact absurd h (by omega)
theorem inS : ∀ w ∈ u_ws rS tS 11, w ∈ wA := by
  intro w h
  obtain ⟨k, hk, rfl⟩ := List.mem_map.mp h
  have hk := List.mem_range.mp hk
  match k, hk with
  | 0, _ => exact wi_97
  | 1, _ => exact wi_99
  | 2, _ => exact wi_101
  | 3, _ => exact wi_103
  | 4, _ => exact wi_105
  | 5, _ => exact wi_107
  | 6, _ => exact wi_109
  | 7, _ => exact wi_111
  | 8, _ => exact wi_113
  | 9, _ => exact wi_115
  | 10, _ => exact wi_117
  | n + 11, h => exact absurd h (by omega)
theorem inD : ∀ w ∈ u_ws rD tD 27, w ∈ wA := by
  intro w h
  obtain ⟨k, hk, rfl⟩ := List.mem_map.mp h
  have hk := List.mem_range.mp hk
  match k, hk with
  | 0, _ => exact wi_515
  | 1, _ => exact wi_517
  | 2, _ => exact wi_519
  | 3, _ => exact wi_521
  | 4, _ => exact wi_523
  | 5, _ => exact wi_525
  | 6, _ => exact wi_527
  | 7, _ => exact wi_529
  | 8, _ => exact wi_531
  | 9, _ => exact wi_533
  | 10, _ => exact wi_535
  | 11, _ => exact wi_537
  | 12, _ => exact wi_539
  | 13, _ => exact wi_541
  | 14, _ => exact wi_543
  | 15, _ => exact wi_545
  | 16, _ => exact wi_547
  | 17, _ => exact wi_549
  | 18, _ => exact wi_551
  | 19, _ => exact wi_553
  | 20, _ => exact wi_555
  | 21, _ => exact wi_557
  | 22, _ => exact wi_559
  | 23, _ => exact wi_561
  | 24, _ => exact wi_563
  | 25, _ => exact wi_565
  | 26, _ => exact wi_567
  | n + 27, h => exact absurd h (by omega)
