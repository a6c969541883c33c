abbrev cX0_add : ByteArray := prog_2_method_2_code
def yX0_add : MethodName := ⟨RX0, "add", "(LCycleStudio$Step;)I"⟩
abbrev cX0_addKnown : ByteArray := prog_2_method_3_code
def yX0_addKnown : MethodName := ⟨RX0, "addKnown", "(LCycleStudio$Pattern;)I"⟩
abbrev cX0_hasName : ByteArray := prog_2_method_4_code
def yX0_hasName : MethodName := ⟨RX0, "hasName", "(J)Z"⟩
abbrev cX0_parameterIndex : ByteArray := prog_2_method_5_code
def yX0_parameterIndex : MethodName := ⟨RX0, "parameterIndex", "(J)I"⟩
abbrev cX1_push : ByteArray := prog_3_method_2_code
def yX1_push : MethodName := ⟨RX1, "push", "(JJJIZ)V"⟩
abbrev cX1_pushAgain : ByteArray := prog_3_method_3_code
def yX1_pushAgain : MethodName := ⟨RX1, "pushAgain", "(IIJJ)V"⟩
abbrev cX1_scale : ByteArray := prog_3_method_4_code
def yX1_scale : MethodName := ⟨RX1, "scale", "(IJJ)V"⟩
abbrev cX1_move : ByteArray := prog_3_method_5_code
def yX1_move : MethodName := ⟨RX1, "move", "(II)V"⟩
abbrev cX1_choose : ByteArray := prog_3_method_6_code
def yX1_choose : MethodName := ⟨RX1, "choose", "(IJJZ)V"⟩
abbrev cX1_chooseMarked : ByteArray := prog_3_method_7_code
def yX1_chooseMarked : MethodName := ⟨RX1, "chooseMarked", "(II)V"⟩
abbrev cX1_remove : ByteArray := prog_3_method_8_code
def yX1_remove : MethodName := ⟨RX1, "remove", "(II)V"⟩
abbrev cX1_isLoud : ByteArray := prog_3_method_9_code
def yX1_isLoud : MethodName := ⟨RX1, "isLoud", "(I)Z"⟩
abbrev cX1_sort : ByteArray := prog_3_method_10_code
def yX1_sort : MethodName := ⟨RX1, "sort", "(I)V"⟩
abbrev cX1_isSorted : ByteArray := prog_3_method_11_code
def yX1_isSorted : MethodName := ⟨RX1, "isSorted", "(I)Z"⟩
abbrev cX1_copyToSpare : ByteArray := prog_3_method_12_code
def yX1_copyToSpare : MethodName := ⟨RX1, "copyToSpare", "(II)V"⟩
abbrev cX1_takeValue : ByteArray := prog_3_method_13_code
def yX1_takeValue : MethodName := ⟨RX1, "takeValue", "(II)V"⟩
abbrev cX1_rotateValues : ByteArray := prog_3_method_14_code
def yX1_rotateValues : MethodName := ⟨RX1, "rotateValues", "(II)V"⟩
abbrev cX1_mergePass : ByteArray := prog_3_method_15_code
def yX1_mergePass : MethodName := ⟨RX1, "mergePass", "(I)Z"⟩
abbrev cX1_runEnd : ByteArray := prog_3_method_16_code
def yX1_runEnd : MethodName := ⟨RX1, "runEnd", "(II)I"⟩
abbrev cX1_mergeRuns : ByteArray := prog_3_method_17_code
def yX1_mergeRuns : MethodName := ⟨RX1, "mergeRuns", "(III)V"⟩
abbrev cX2_merge : ByteArray := prog_4_method_2_code
def yX2_merge : MethodName := ⟨RX2, "merge", "(LCycleStudio$Events;JIII)V"⟩
abbrev cX2_move : ByteArray := prog_4_method_3_code
def yX2_move : MethodName := ⟨RX2, "move", "(II)V"⟩
abbrev cX2_take : ByteArray := prog_4_method_4_code
def yX2_take : MethodName := ⟨RX2, "take", "(LCycleStudio$Events;II)V"⟩
abbrev cX2_time : ByteArray := prog_4_method_5_code
def yX2_time : MethodName := ⟨RX2, "time", "(II)I"⟩
abbrev cX2_lettersOf : ByteArray := prog_4_method_6_code
def yX2_lettersOf : MethodName := ⟨RX2, "lettersOf", "(J)I"⟩
abbrev cX3_make : ByteArray := prog_5_method_3_code
def yX3_make : MethodName := ⟨RX3, "make", "(LCycleStudio$Definition;)LCycleStudio$Pattern;"⟩
abbrev cX3_carryOut : ByteArray := prog_5_method_4_code
def yX3_carryOut : MethodName := ⟨RX3, "carryOut", "(LCycleStudio$Step;I)V"⟩
abbrev cX3_fail : ByteArray := prog_5_method_5_code
def yX3_fail : MethodName := ⟨RX3, "fail", "(II)V"⟩
abbrev cX3_operand : ByteArray := prog_5_method_6_code
def yX3_operand : MethodName := ⟨RX3, "operand", "(I)LCycleStudio$Pattern;"⟩
abbrev cX3_begin : ByteArray := prog_5_method_7_code
def yX3_begin : MethodName := ⟨RX3, "begin", "(LCycleStudio$Step;II)V"⟩
abbrev cX3_build : ByteArray := prog_5_method_8_code
def yX3_build : MethodName := ⟨RX3, "build", "(LCycleStudio$Step;I)LCycleStudio$Pattern;"⟩
abbrev cX4_init : ByteArray := prog_6_method_1_code
def yX4_init : MethodName := ⟨RX4, "<init>", "(LCycleStudio$Step;[LCycleStudio$Pattern;)V"⟩
abbrev cX4_gcd : ByteArray := prog_6_method_2_code
def yX4_gcd : MethodName := ⟨RX4, "gcd", "(JJ)J"⟩
abbrev cX4_lcm : ByteArray := prog_6_method_3_code
def yX4_lcm : MethodName := ⟨RX4, "lcm", "(JJ)J"⟩
abbrev cX4_excess : ByteArray := prog_6_method_4_code
def yX4_excess : MethodName := ⟨RX4, "excess", "()I"⟩
abbrev cX4_measure : ByteArray := prog_6_method_5_code
def yX4_measure : MethodName := ⟨RX4, "measure", "()V"⟩
abbrev cX4_bounds : ByteArray := prog_6_method_6_code
def yX4_bounds : MethodName := ⟨RX4, "bounds", "(JJJJ)V"⟩
abbrev cX4_measureMeeting : ByteArray := prog_6_method_7_code
def yX4_measureMeeting : MethodName := ⟨RX4, "measureMeeting", "(LCycleStudio$Pattern;LCycleStudio$Pattern;)V"⟩
abbrev cX4_measureOfOne : ByteArray := prog_6_method_8_code
def yX4_measureOfOne : MethodName := ⟨RX4, "measureOfOne", "(LCycleStudio$Pattern;)V"⟩
abbrev cX4_spanUpper : ByteArray := prog_6_method_9_code
def yX4_spanUpper : MethodName := ⟨RX4, "spanUpper", "()J"⟩
abbrev cX4_spanLower : ByteArray := prog_6_method_10_code
def yX4_spanLower : MethodName := ⟨RX4, "spanLower", "()J"⟩
abbrev cX4_lcmOfAll : ByteArray := prog_6_method_11_code
def yX4_lcmOfAll : MethodName := ⟨RX4, "lcmOfAll", "()J"⟩
abbrev cX4_repeatsOf : ByteArray := prog_6_method_12_code
def yX4_repeatsOf : MethodName := ⟨RX4, "repeatsOf", "(I)J"⟩
abbrev cX4_crowdOfAll : ByteArray := prog_6_method_13_code
def yX4_crowdOfAll : MethodName := ⟨RX4, "crowdOfAll", "()J"⟩
abbrev cX4_workOfAll : ByteArray := prog_6_method_14_code
def yX4_workOfAll : MethodName := ⟨RX4, "workOfAll", "()J"⟩
abbrev cX4_mostCrowd : ByteArray := prog_6_method_15_code
def yX4_mostCrowd : MethodName := ⟨RX4, "mostCrowd", "()J"⟩
abbrev cX4_mostReach : ByteArray := prog_6_method_16_code
def yX4_mostReach : MethodName := ⟨RX4, "mostReach", "()J"⟩
abbrev cX4_mostWork : ByteArray := prog_6_method_17_code
def yX4_mostWork : MethodName := ⟨RX4, "mostWork", "()J"⟩
abbrev cX5_init : ByteArray := prog_7_method_1_code
def yX5_init : MethodName := ⟨RX5, "<init>", "(II)V"⟩
abbrev cX5_give : ByteArray := prog_7_method_2_code
def yX5_give : MethodName := ⟨RX5, "give", "(I)V"⟩
abbrev cX5_applyAll : ByteArray := prog_7_method_3_code
def yX5_applyAll : MethodName := ⟨RX5, "applyAll", "(LCycleStudio$Piece;LCycleStudio$Definition;I)I"⟩
abbrev cX5_apply : ByteArray := prog_7_method_4_code
def yX5_apply : MethodName := ⟨RX5, "apply", "(LCycleStudio$Definition;I)I"⟩
abbrev cX5_applyWithFun : ByteArray := prog_7_method_5_code
def yX5_applyWithFun : MethodName := ⟨RX5, "applyWithFun", "(LCycleStudio$Definition;I)I"⟩
abbrev cX5_spanStep : ByteArray := prog_7_method_6_code
def yX5_spanStep : MethodName := ⟨RX5, "spanStep", "(I)LCycleStudio$Step;"⟩
abbrev cX5_useStep : ByteArray := prog_7_method_7_code
def yX5_useStep : MethodName := ⟨RX5, "useStep", "()LCycleStudio$Step;"⟩
abbrev cX6_line : ByteArray := prog_8_method_3_code
def yX6_line : MethodName := ⟨RX6, "line", "()LCycleStudio$Definition;"⟩
abbrev cX6_header : ByteArray := prog_8_method_5_code
def yX6_header : MethodName := ⟨RX6, "header", "()V"⟩
abbrev cX6_expect : ByteArray := prog_8_method_6_code
def yX6_expect : MethodName := ⟨RX6, "expect", "(I)V"⟩
abbrev cX6_functionOf : ByteArray := prog_8_method_7_code
def yX6_functionOf : MethodName := ⟨RX6, "functionOf", "(J)I"⟩
abbrev cX6_kindOf : ByteArray := prog_8_method_8_code
def yX6_kindOf : MethodName := ⟨RX6, "kindOf", "(J)I"⟩
abbrev cX6_patternName : ByteArray := prog_8_method_14_code
def yX6_patternName : MethodName := ⟨RX6, "patternName", "()I"⟩
abbrev cX6_named : ByteArray := prog_8_method_15_code
def yX6_named : MethodName := ⟨RX6, "named", "(I)LCycleStudio$Piece;"⟩
abbrev cX6_wants : ByteArray := prog_8_method_16_code
def yX6_wants : MethodName := ⟨RX6, "wants", "(LCycleStudio$Piece;)V"⟩
abbrev cX6_fraction : ByteArray := prog_8_method_17_code
def yX6_fraction : MethodName := ⟨RX6, "fraction", "(LCycleStudio$Piece;Z)V"⟩
abbrev cX6_count : ByteArray := prog_8_method_18_code
def yX6_count : MethodName := ⟨RX6, "count", "(LCycleStudio$Piece;Z)V"⟩
abbrev cX6_fun : ByteArray := prog_8_method_19_code
def yX6_fun : MethodName := ⟨RX6, "fun", "()LCycleStudio$Piece;"⟩
abbrev cX6_funName : ByteArray := prog_8_method_20_code
def yX6_funName : MethodName := ⟨RX6, "funName", "()LCycleStudio$Piece;"⟩
abbrev cX6_piece : ByteArray := prog_8_method_21_code
def yX6_piece : MethodName := ⟨RX6, "piece", "()LCycleStudio$Piece;"⟩
abbrev cX7_ceiling : ByteArray := prog_9_method_2_code
def yX7_ceiling : MethodName := ⟨RX7, "ceiling", "(JJ)J"⟩
abbrev cX7_workOut : ByteArray := prog_9_method_3_code
def yX7_workOut : MethodName := ⟨RX7, "workOut", "(LCycleStudio$Pattern;J)V"⟩
abbrev cX7_row : ByteArray := prog_9_method_4_code
def yX7_row : MethodName := ⟨RX7, "row", "(LCycleStudio$Pattern;J)V"⟩
abbrev cX7_sequence : ByteArray := prog_9_method_5_code
def yX7_sequence : MethodName := ⟨RX7, "sequence", "(LCycleStudio$Pattern;J)V"⟩
abbrev cX7_partAt : ByteArray := prog_9_method_6_code
def yX7_partAt : MethodName := ⟨RX7, "partAt", "(LCycleStudio$Pattern;J)LCycleStudio$Pattern;"⟩
abbrev cX7_turn : ByteArray := prog_9_method_7_code
def yX7_turn : MethodName := ⟨RX7, "turn", "(LCycleStudio$Pattern;J)V"⟩
abbrev cX7_poly : ByteArray := prog_9_method_8_code
def yX7_poly : MethodName := ⟨RX7, "poly", "(LCycleStudio$Pattern;J)V"⟩
abbrev cX7_euclid : ByteArray := prog_9_method_9_code
def yX7_euclid : MethodName := ⟨RX7, "euclid", "(LCycleStudio$Pattern;J)V"⟩
abbrev cX7_layer : ByteArray := prog_9_method_10_code
def yX7_layer : MethodName := ⟨RX7, "layer", "(LCycleStudio$Pattern;J)V"⟩
abbrev cX7_fast : ByteArray := prog_9_method_11_code
def yX7_fast : MethodName := ⟨RX7, "fast", "(LCycleStudio$Pattern;J)V"⟩
abbrev cX7_shift : ByteArray := prog_9_method_12_code
def yX7_shift : MethodName := ⟨RX7, "shift", "(LCycleStudio$Pattern;JJJ)V"⟩
abbrev cX7_reverse : ByteArray := prog_9_method_13_code
def yX7_reverse : MethodName := ⟨RX7, "reverse", "(LCycleStudio$Pattern;J)V"⟩
abbrev cX7_either : ByteArray := prog_9_method_14_code
def yX7_either : MethodName := ⟨RX7, "either", "(LCycleStudio$Pattern;JZ)V"⟩
abbrev cX7_chunk : ByteArray := prog_9_method_15_code
def yX7_chunk : MethodName := ⟨RX7, "chunk", "(LCycleStudio$Pattern;J)V"⟩
abbrev cX7_within : ByteArray := prog_9_method_16_code
def yX7_within : MethodName := ⟨RX7, "within", "(LCycleStudio$Pattern;JJJ)V"⟩
abbrev cX7_ply : ByteArray := prog_9_method_17_code
def yX7_ply : MethodName := ⟨RX7, "ply", "(LCycleStudio$Pattern;J)V"⟩
abbrev cX7_plyOne : ByteArray := prog_9_method_18_code
def yX7_plyOne : MethodName := ⟨RX7, "plyOne", "(IIJJ)V"⟩
abbrev cX7_rotate : ByteArray := prog_9_method_19_code
def yX7_rotate : MethodName := ⟨RX7, "rotate", "(LCycleStudio$Pattern;J)V"⟩
abbrev cX7_squeeze : ByteArray := prog_9_method_20_code
def yX7_squeeze : MethodName := ⟨RX7, "squeeze", "(LCycleStudio$Pattern;J)V"⟩
abbrev cX7_draws : ByteArray := prog_9_method_21_code
def yX7_draws : MethodName := ⟨RX7, "draws", "(LCycleStudio$Pattern;J)V"⟩
abbrev cX7_draw : ByteArray := prog_9_method_22_code
def yX7_draw : MethodName := ⟨RX7, "draw", "(JJJI)I"⟩
abbrev cX7_meet : ByteArray := prog_9_method_23_code
def yX7_meet : MethodName := ⟨RX7, "meet", "(LCycleStudio$Pattern;JLCycleStudio$Pattern;LCycleStudio$Pattern;)V"⟩
abbrev cX7_meetRow : ByteArray := prog_9_method_24_code
def yX7_meetRow : MethodName := ⟨RX7, "meetRow", "(LCycleStudio$Step;IIJJJ)I"⟩
abbrev cX7_join : ByteArray := prog_9_method_25_code
def yX7_join : MethodName := ⟨RX7, "join", "(LCycleStudio$Step;II)V"⟩
abbrev cX7_overwrite : ByteArray := prog_9_method_26_code
def yX7_overwrite : MethodName := ⟨RX7, "overwrite", "(II)V"⟩
abbrev cX7_reckon : ByteArray := prog_9_method_27_code
def yX7_reckon : MethodName := ⟨RX7, "reckon", "(III)I"⟩
abbrev cX8_opens : ByteArray := prog_10_method_5_code
def yX8_opens : MethodName := ⟨RX8, "opens", "(I)Z"⟩
abbrev cX8_isLetter : ByteArray := prog_10_method_8_code
def yX8_isLetter : MethodName := ⟨RX8, "isLetter", "(I)Z"⟩
abbrev cX8_isOp : ByteArray := prog_10_method_10_code
def yX8_isOp : MethodName := ⟨RX8, "isOp", "(I)Z"⟩
abbrev cX8_isSign : ByteArray := prog_10_method_11_code
def yX8_isSign : MethodName := ⟨RX8, "isSign", "(I)Z"⟩
abbrev cX8_scanName : ByteArray := prog_10_method_13_code
def yX8_scanName : MethodName := ⟨RX8, "scanName", "()V"⟩
abbrev cX8_scanCount : ByteArray := prog_10_method_14_code
def yX8_scanCount : MethodName := ⟨RX8, "scanCount", "()V"⟩
abbrev cX8_digitsBehind : ByteArray := prog_10_method_15_code
def yX8_digitsBehind : MethodName := ⟨RX8, "digitsBehind", "(I)I"⟩
abbrev cX8_valueOf : ByteArray := prog_10_method_16_code
def yX8_valueOf : MethodName := ⟨RX8, "valueOf", "(II)I"⟩
abbrev cX8_scanText : ByteArray := prog_10_method_17_code
def yX8_scanText : MethodName := ⟨RX8, "scanText", "()V"⟩
abbrev cX9_init : ByteArray := prog_11_method_1_code
def yX9_init : MethodName := ⟨RX9, "<init>", "(II)V"⟩
abbrev cX9_init_ : ByteArray := prog_11_method_2_code
def yX9_init_ : MethodName := ⟨RX9, "<init>", "(IIII)V"⟩
abbrev cX9_give : ByteArray := prog_11_method_3_code
def yX9_give : MethodName := ⟨RX9, "give", "(I)LCycleStudio$Step;"⟩
abbrev cX9_giveWeighted : ByteArray := prog_11_method_4_code
def yX9_giveWeighted : MethodName := ⟨RX9, "giveWeighted", "(III)V"⟩
abbrev cX9_besides : ByteArray := prog_11_method_5_code
def yX9_besides : MethodName := ⟨RX9, "besides", "()I"⟩
abbrev cX10_start : ByteArray := prog_12_method_2_code
def yX10_start : MethodName := ⟨RX10, "start", "(LCycleStudio$Definition;II)V"⟩
abbrev cX10_finish : ByteArray := prog_12_method_3_code
def yX10_finish : MethodName := ⟨RX10, "finish", "()V"⟩
abbrev cX10_here : ByteArray := prog_12_method_4_code
def yX10_here : MethodName := ⟨RX10, "here", "()I"⟩
abbrev cX10_skipBlanks : ByteArray := prog_12_method_5_code
def yX10_skipBlanks : MethodName := ⟨RX10, "skipBlanks", "()V"⟩
abbrev cX10_take : ByteArray := prog_12_method_6_code
def yX10_take : MethodName := ⟨RX10, "take", "(I)V"⟩
abbrev cX10_seq : ByteArray := prog_12_method_7_code
def yX10_seq : MethodName := ⟨RX10, "seq", "()I"⟩
abbrev cX10_steps : ByteArray := prog_12_method_8_code
def yX10_steps : MethodName := ⟨RX10, "steps", "(LCycleStudio$Step;)V"⟩
abbrev cX10_behindSign : ByteArray := prog_12_method_9_code
def yX10_behindSign : MethodName := ⟨RX10, "behindSign", "(I)I"⟩
abbrev cX10_startsPart : ByteArray := prog_12_method_10_code
def yX10_startsPart : MethodName := ⟨RX10, "startsPart", "(I)Z"⟩
abbrev cX10_part : ByteArray := prog_12_method_11_code
def yX10_part : MethodName := ⟨RX10, "part", "()I"⟩
abbrev cX10_word : ByteArray := prog_12_method_12_code
def yX10_word : MethodName := ⟨RX10, "word", "()I"⟩
abbrev cX10_signedNumber : ByteArray := prog_12_method_13_code
def yX10_signedNumber : MethodName := ⟨RX10, "signedNumber", "()I"⟩
abbrev cX10_bracket : ByteArray := prog_12_method_14_code
def yX10_bracket : MethodName := ⟨RX10, "bracket", "()I"⟩
abbrev cX10_turn : ByteArray := prog_12_method_15_code
def yX10_turn : MethodName := ⟨RX10, "turn", "()I"⟩
abbrev cX10_poly : ByteArray := prog_12_method_16_code
def yX10_poly : MethodName := ⟨RX10, "poly", "()I"⟩
abbrev cX10_mods : ByteArray := prog_12_method_17_code
def yX10_mods : MethodName := ⟨RX10, "mods", "(I)I"⟩
abbrev cX10_euclid : ByteArray := prog_12_method_18_code
def yX10_euclid : MethodName := ⟨RX10, "euclid", "(I)I"⟩
abbrev cX10_number : ByteArray := prog_12_method_19_code
def yX10_number : MethodName := ⟨RX10, "number", "(II)I"⟩
abbrev cX10_digits : ByteArray := prog_12_method_20_code
def yX10_digits : MethodName := ⟨RX10, "digits", "(I)I"⟩
abbrev cX11_takeLine : ByteArray := prog_1_method_23_code
def yX11_takeLine : MethodName := ⟨RX11, "takeLine", "(LCycleStudio$Definition;)Z"⟩
def RJ9 : String := "java/lang/Math"
def TJ9 : u_T := fun k => match k with
  | _ => ("", "", "", false)
def tyJ9 : Nat → FieldType := fun k => match k with
  | _ => .int
theorem nmJ9 : ∀ a, a < 0 → ∀ b, b < 0 → a ≠ b → (TJ9 a).2.1 ≠ (TJ9 b).2.1 := by decide +kernel
theorem tyJ9_ok : ∀ k, k < 0 → parseFieldDescriptor (TJ9 k).2.2.1 = some (tyJ9 k) := by decide +kernel
abbrev cJ9_floorDiv_f86c9 : ByteArray := prog_18_method_49_code
def yJ9_floorDiv_f86c9 : MethodName := ⟨RJ9, "floorDiv", "(JJ)J"⟩
abbrev cJ9_floorMod_f86c9 : ByteArray := prog_18_method_52_code
def yJ9_floorMod_f86c9 : MethodName := ⟨RJ9, "floorMod", "(JJ)J"⟩
abbrev cJx4a65c_grow_92f84 : ByteArray := prog_25_method_6_code
def yJx4a65c_grow_92f84 : MethodName := ⟨RJx4a65c, "grow", "(I)[Ljava/lang/Object;"⟩
abbrev cJx4a65c_grow_d5877 : ByteArray := prog_25_method_7_code
def yJx4a65c_grow_d5877 : MethodName := ⟨RJx4a65c, "grow", "()[Ljava/lang/Object;"⟩
abbrev cJx4a65c_elementData_915e3 : ByteArray := prog_25_method_18_code
def yJx4a65c_elementData_915e3 : MethodName := ⟨RJx4a65c, "elementData", "(I)Ljava/lang/Object;"⟩
abbrev cJx4a65c_get_915e3 : ByteArray := prog_25_method_20_code
def yJx4a65c_get_915e3 : MethodName := ⟨RJx4a65c, "get", "(I)Ljava/lang/Object;"⟩
abbrev cJx4a65c_set_bcc79 : ByteArray := prog_25_method_23_code
def yJx4a65c_set_bcc79 : MethodName := ⟨RJx4a65c, "set", "(ILjava/lang/Object;)Ljava/lang/Object;"⟩
abbrev cJx4a65c_add_72be8 : ByteArray := prog_25_method_24_code
def yJx4a65c_add_72be8 : MethodName := ⟨RJx4a65c, "add", "(Ljava/lang/Object;[Ljava/lang/Object;I)V"⟩
abbrev cJx4a65c_add_9ea2d : ByteArray := prog_25_method_25_code
def yJx4a65c_add_9ea2d : MethodName := ⟨RJx4a65c, "add", "(Ljava/lang/Object;)Z"⟩
def RJ7 : String := "java/util/Arrays"
def TJ7 : u_T := fun k => match k with
  | _ => ("", "", "", false)
def tyJ7 : Nat → FieldType := fun k => match k with
  | _ => .int
theorem nmJ7 : ∀ a, a < 0 → ∀ b, b < 0 → a ≠ b → (TJ7 a).2.1 ≠ (TJ7 b).2.1 := by decide +kernel
theorem tyJ7_ok : ∀ k, k < 0 → parseFieldDescriptor (TJ7 k).2.2.1 = some (tyJ7 k) := by decide +kernel
abbrev cJ7_copyOf_1904c : ByteArray := prog_26_method_119_code
def yJ7_copyOf_1904c : MethodName := ⟨RJ7, "copyOf", "([Ljava/lang/Object;I)[Ljava/lang/Object;"⟩
abbrev cJ7_copyOf_6403c : ByteArray := prog_26_method_120_code
def yJ7_copyOf_6403c : MethodName := ⟨RJ7, "copyOf", "([Ljava/lang/Object;ILjava/lang/Class;)[Ljava/lang/Object;"⟩
abbrev cJ7_copyOf_59c91 : ByteArray := prog_26_method_123_code
def yJ7_copyOf_59c91 : MethodName := ⟨RJ7, "copyOf", "([II)[I"⟩
def RJ15 : String := "java/util/Objects"
def TJ15 : u_T := fun k => match k with
  | _ => ("", "", "", false)
def tyJ15 : Nat → FieldType := fun k => match k with
  | _ => .int
theorem nmJ15 : ∀ a, a < 0 → ∀ b, b < 0 → a ≠ b → (TJ15 a).2.1 ≠ (TJ15 b).2.1 := by decide +kernel
theorem tyJ15_ok : ∀ k, k < 0 → parseFieldDescriptor (TJ15 k).2.2.1 = some (tyJ15 k) := by decide +kernel
abbrev cJ15_checkIndex_7cf53 : ByteArray := prog_29_method_17_code
def yJ15_checkIndex_7cf53 : MethodName := ⟨RJ15, "checkIndex", "(II)I"⟩
def RJ8 : String := "jdk/internal/util/ArraysSupport"
def TJ8 : u_T := fun k => match k with
  | _ => ("", "", "", false)
def tyJ8 : Nat → FieldType := fun k => match k with
  | _ => .int
theorem nmJ8 : ∀ a, a < 0 → ∀ b, b < 0 → a ≠ b → (TJ8 a).2.1 ≠ (TJ8 b).2.1 := by decide +kernel
theorem tyJ8_ok : ∀ k, k < 0 → parseFieldDescriptor (TJ8 k).2.2.1 = some (tyJ8 k) := by decide +kernel
abbrev cJ8_newLength_cabcc : ByteArray := prog_32_method_27_code
def yJ8_newLength_cabcc : MethodName := ⟨RJ8, "newLength", "(III)I"⟩
abbrev cJ8_hugeLength_7cf53 : ByteArray := prog_32_method_28_code
def yJ8_hugeLength_7cf53 : MethodName := ⟨RJ8, "hugeLength", "(II)I"⟩

theorem dX0_add_0 : decode cX0_add 0 = .ok (.aload_n 0, 1) := by decide +kernel
theorem dX0_add_1 : decode cX0_add 1 = .ok (.getfield 20, 3) := by decide +kernel
theorem dX0_add_4 : decode cX0_add 4 = .ok (.aload_n 1, 1) := by decide +kernel
theorem dX0_add_5 : decode cX0_add 5 = .ok (.invokevirtual 38, 3) := by decide +kernel
theorem dX0_add_8 : decode cX0_add 8 = .ok (.pop, 1) := by decide +kernel
theorem dX0_add_9 : decode cX0_add 9 = .ok (.aload_n 0, 1) := by decide +kernel
theorem dX0_add_10 : decode cX0_add 10 = .ok (.getfield 13, 3) := by decide +kernel
theorem dX0_add_13 : decode cX0_add 13 = .ok (.aload_n 0, 1) := by decide +kernel
theorem dX0_add_14 : decode cX0_add 14 = .ok (.getfield 20, 3) := by decide +kernel
theorem dX0_add_17 : decode cX0_add 17 = .ok (.invokevirtual 42, 3) := by decide +kernel
theorem dX0_add_20 : decode cX0_add 20 = .ok (.iadd, 1) := by decide +kernel
theorem dX0_add_21 : decode cX0_add 21 = .ok (.iconst 1, 1) := by decide +kernel
theorem dX0_add_22 : decode cX0_add 22 = .ok (.isub, 1) := by decide +kernel
theorem dX0_add_23 : decode cX0_add 23 = .ok (.ireturn, 1) := by decide +kernel
theorem dX0_addKnown_0 : decode cX0_addKnown 0 = .ok (.aload_n 0, 1) := by decide +kernel
theorem dX0_addKnown_1 : decode cX0_addKnown 1 = .ok (.getfield 24, 3) := by decide +kernel
theorem dX0_addKnown_4 : decode cX0_addKnown 4 = .ok (.aload_n 1, 1) := by decide +kernel
theorem dX0_addKnown_5 : decode cX0_addKnown 5 = .ok (.invokevirtual 38, 3) := by decide +kernel
theorem dX0_addKnown_8 : decode cX0_addKnown 8 = .ok (.pop, 1) := by decide +kernel
theorem dX0_addKnown_9 : decode cX0_addKnown 9 = .ok (.aload_n 0, 1) := by decide +kernel
theorem dX0_addKnown_10 : decode cX0_addKnown 10 = .ok (.getfield 24, 3) := by decide +kernel
theorem dX0_addKnown_13 : decode cX0_addKnown 13 = .ok (.invokevirtual 42, 3) := by decide +kernel
theorem dX0_addKnown_16 : decode cX0_addKnown 16 = .ok (.ineg, 1) := by decide +kernel
theorem dX0_addKnown_17 : decode cX0_addKnown 17 = .ok (.ireturn, 1) := by decide +kernel
theorem dX0_hasName_0 : decode cX0_hasName 0 = .ok (.aload_n 0, 1) := by decide +kernel
theorem dX0_hasName_1 : decode cX0_hasName 1 = .ok (.getfield 34, 3) := by decide +kernel
theorem dX0_hasName_4 : decode cX0_hasName 4 = .ok (.lload_n 1, 1) := by decide +kernel
theorem dX0_hasName_5 : decode cX0_hasName 5 = .ok (.lcmp, 1) := by decide +kernel
theorem dX0_hasName_6 : decode cX0_hasName 6 = .ok (.ifCond .eq 11, 3) := by decide +kernel
theorem dX0_hasName_9 : decode cX0_hasName 9 = .ok (.aload_n 0, 1) := by decide +kernel
theorem dX0_hasName_10 : decode cX0_hasName 10 = .ok (.lload_n 1, 1) := by decide +kernel
theorem dX0_hasName_11 : decode cX0_hasName 11 = .ok (.invokevirtual 46, 3) := by decide +kernel
theorem dX0_hasName_14 : decode cX0_hasName 14 = .ok (.ifCond .lt 7, 3) := by decide +kernel
theorem dX0_hasName_17 : decode cX0_hasName 17 = .ok (.iconst 1, 1) := by decide +kernel
theorem dX0_hasName_18 : decode cX0_hasName 18 = .ok (.goto 4, 3) := by decide +kernel
theorem dX0_hasName_21 : decode cX0_hasName 21 = .ok (.iconst 0, 1) := by decide +kernel
theorem dX0_hasName_22 : decode cX0_hasName 22 = .ok (.ireturn, 1) := by decide +kernel
theorem dX0_parameterIndex_0 : decode cX0_parameterIndex 0 = .ok (.iconst 0, 1) := by decide +kernel
theorem dX0_parameterIndex_1 : decode cX0_parameterIndex 1 = .ok (.istore_n 3, 1) := by decide +kernel
theorem dX0_parameterIndex_2 : decode cX0_parameterIndex 2 = .ok (.iload_n 3, 1) := by decide +kernel
theorem dX0_parameterIndex_3 : decode cX0_parameterIndex 3 = .ok (.aload_n 0, 1) := by decide +kernel
theorem dX0_parameterIndex_4 : decode cX0_parameterIndex 4 = .ok (.getfield 13, 3) := by decide +kernel
theorem dX0_parameterIndex_7 : decode cX0_parameterIndex 7 = .ok (.if_icmp .ge 22, 3) := by decide +kernel
theorem dX0_parameterIndex_10 : decode cX0_parameterIndex 10 = .ok (.aload_n 0, 1) := by decide +kernel
theorem dX0_parameterIndex_11 : decode cX0_parameterIndex 11 = .ok (.getfield 9, 3) := by decide +kernel
theorem dX0_parameterIndex_14 : decode cX0_parameterIndex 14 = .ok (.iload_n 3, 1) := by decide +kernel
theorem dX0_parameterIndex_15 : decode cX0_parameterIndex 15 = .ok (.laload, 1) := by decide +kernel
theorem dX0_parameterIndex_16 : decode cX0_parameterIndex 16 = .ok (.lload_n 1, 1) := by decide +kernel
theorem dX0_parameterIndex_17 : decode cX0_parameterIndex 17 = .ok (.lcmp, 1) := by decide +kernel
theorem dX0_parameterIndex_18 : decode cX0_parameterIndex 18 = .ok (.ifCond .ne 5, 3) := by decide +kernel
theorem dX0_parameterIndex_21 : decode cX0_parameterIndex 21 = .ok (.iload_n 3, 1) := by decide +kernel
theorem dX0_parameterIndex_22 : decode cX0_parameterIndex 22 = .ok (.ireturn, 1) := by decide +kernel
theorem dX0_parameterIndex_23 : decode cX0_parameterIndex 23 = .ok (.iinc 3 1, 3) := by decide +kernel
theorem dX0_parameterIndex_26 : decode cX0_parameterIndex 26 = .ok (.goto (-24), 3) := by decide +kernel
theorem dX0_parameterIndex_29 : decode cX0_parameterIndex 29 = .ok (.iconst (-1), 1) := by decide +kernel
theorem dX0_parameterIndex_30 : decode cX0_parameterIndex 30 = .ok (.ireturn, 1) := by decide +kernel
theorem dX1_push_0 : decode cX1_push 0 = .ok (.aload_n 0, 1) := by decide +kernel
theorem dX1_push_1 : decode cX1_push 1 = .ok (.getfield 30, 3) := by decide +kernel
theorem dX1_push_4 : decode cX1_push 4 = .ok (.sipush 6000, 3) := by decide +kernel
theorem dX1_push_7 : decode cX1_push 7 = .ok (.if_icmp .lt 4, 3) := by decide +kernel
theorem dX1_push_10 : decode cX1_push 10 = .ok (.return_, 1) := by decide +kernel
theorem dX1_push_11 : decode cX1_push 11 = .ok (.aload_n 0, 1) := by decide +kernel
theorem dX1_push_12 : decode cX1_push 12 = .ok (.getfield 9, 3) := by decide +kernel
theorem dX1_push_15 : decode cX1_push 15 = .ok (.aload_n 0, 1) := by decide +kernel
theorem dX1_push_16 : decode cX1_push 16 = .ok (.getfield 30, 3) := by decide +kernel
theorem dX1_push_19 : decode cX1_push 19 = .ok (.lload_n 1, 1) := by decide +kernel
theorem dX1_push_20 : decode cX1_push 20 = .ok (.lastore, 1) := by decide +kernel
theorem dX1_push_21 : decode cX1_push 21 = .ok (.aload_n 0, 1) := by decide +kernel
theorem dX1_push_22 : decode cX1_push 22 = .ok (.getfield 13, 3) := by decide +kernel
theorem dX1_push_25 : decode cX1_push 25 = .ok (.aload_n 0, 1) := by decide +kernel
theorem dX1_push_26 : decode cX1_push 26 = .ok (.getfield 30, 3) := by decide +kernel
theorem dX1_push_29 : decode cX1_push 29 = .ok (.lload_n 3, 1) := by decide +kernel
theorem dX1_push_30 : decode cX1_push 30 = .ok (.lastore, 1) := by decide +kernel
theorem dX1_push_31 : decode cX1_push 31 = .ok (.aload_n 0, 1) := by decide +kernel
theorem dX1_push_32 : decode cX1_push 32 = .ok (.getfield 16, 3) := by decide +kernel
theorem dX1_push_35 : decode cX1_push 35 = .ok (.aload_n 0, 1) := by decide +kernel
theorem dX1_push_36 : decode cX1_push 36 = .ok (.getfield 30, 3) := by decide +kernel
theorem dX1_push_39 : decode cX1_push 39 = .ok (.lload 5, 2) := by decide +kernel
theorem dX1_push_41 : decode cX1_push 41 = .ok (.lastore, 1) := by decide +kernel
theorem dX1_push_42 : decode cX1_push 42 = .ok (.aload_n 0, 1) := by decide +kernel
theorem dX1_push_43 : decode cX1_push 43 = .ok (.getfield 19, 3) := by decide +kernel
theorem dX1_push_46 : decode cX1_push 46 = .ok (.aload_n 0, 1) := by decide +kernel
theorem dX1_push_47 : decode cX1_push 47 = .ok (.getfield 30, 3) := by decide +kernel
theorem dX1_push_50 : decode cX1_push 50 = .ok (.iload 7, 2) := by decide +kernel
theorem dX1_push_52 : decode cX1_push 52 = .ok (.iastore, 1) := by decide +kernel
theorem dX1_push_53 : decode cX1_push 53 = .ok (.aload_n 0, 1) := by decide +kernel
theorem dX1_push_54 : decode cX1_push 54 = .ok (.getfield 23, 3) := by decide +kernel
theorem dX1_push_57 : decode cX1_push 57 = .ok (.aload_n 0, 1) := by decide +kernel
theorem dX1_push_58 : decode cX1_push 58 = .ok (.getfield 30, 3) := by decide +kernel
theorem dX1_push_61 : decode cX1_push 61 = .ok (.iload 8, 2) := by decide +kernel
theorem dX1_push_63 : decode cX1_push 63 = .ok (.bastore, 1) := by decide +kernel
theorem dX1_push_64 : decode cX1_push 64 = .ok (.aload_n 0, 1) := by decide +kernel
theorem dX1_push_65 : decode cX1_push 65 = .ok (.dup, 1) := by decide +kernel
theorem dX1_push_66 : decode cX1_push 66 = .ok (.getfield 30, 3) := by decide +kernel
theorem dX1_push_69 : decode cX1_push 69 = .ok (.iconst 1, 1) := by decide +kernel
theorem dX1_push_70 : decode cX1_push 70 = .ok (.iadd, 1) := by decide +kernel
theorem dX1_push_71 : decode cX1_push 71 = .ok (.putfield 30, 3) := by decide +kernel
theorem dX1_push_74 : decode cX1_push 74 = .ok (.return_, 1) := by decide +kernel
theorem dX1_pushAgain_0 : decode cX1_pushAgain 0 = .ok (.iload_n 1, 1) := by decide +kernel
theorem dX1_pushAgain_1 : decode cX1_pushAgain 1 = .ok (.istore 7, 2) := by decide +kernel
theorem dX1_pushAgain_3 : decode cX1_pushAgain 3 = .ok (.iload 7, 2) := by decide +kernel
theorem dX1_pushAgain_5 : decode cX1_pushAgain 5 = .ok (.iload_n 2, 1) := by decide +kernel
theorem dX1_pushAgain_6 : decode cX1_pushAgain 6 = .ok (.if_icmp .ge 55, 3) := by decide +kernel
theorem dX1_pushAgain_9 : decode cX1_pushAgain 9 = .ok (.aload_n 0, 1) := by decide +kernel
theorem dX1_pushAgain_10 : decode cX1_pushAgain 10 = .ok (.aload_n 0, 1) := by decide +kernel
theorem dX1_pushAgain_11 : decode cX1_pushAgain 11 = .ok (.getfield 9, 3) := by decide +kernel
theorem dX1_pushAgain_14 : decode cX1_pushAgain 14 = .ok (.iload 7, 2) := by decide +kernel
theorem dX1_pushAgain_16 : decode cX1_pushAgain 16 = .ok (.laload, 1) := by decide +kernel
theorem dX1_pushAgain_17 : decode cX1_pushAgain 17 = .ok (.lload_n 3, 1) := by decide +kernel
theorem dX1_pushAgain_18 : decode cX1_pushAgain 18 = .ok (.lmul, 1) := by decide +kernel
theorem dX1_pushAgain_19 : decode cX1_pushAgain 19 = .ok (.lload 5, 2) := by decide +kernel
theorem dX1_pushAgain_21 : decode cX1_pushAgain 21 = .ok (.ladd, 1) := by decide +kernel
theorem dX1_pushAgain_22 : decode cX1_pushAgain 22 = .ok (.aload_n 0, 1) := by decide +kernel
theorem dX1_pushAgain_23 : decode cX1_pushAgain 23 = .ok (.getfield 13, 3) := by decide +kernel
theorem dX1_pushAgain_26 : decode cX1_pushAgain 26 = .ok (.iload 7, 2) := by decide +kernel
theorem dX1_pushAgain_28 : decode cX1_pushAgain 28 = .ok (.laload, 1) := by decide +kernel
theorem dX1_pushAgain_29 : decode cX1_pushAgain 29 = .ok (.lload_n 3, 1) := by decide +kernel
theorem dX1_pushAgain_30 : decode cX1_pushAgain 30 = .ok (.lmul, 1) := by decide +kernel
theorem dX1_pushAgain_31 : decode cX1_pushAgain 31 = .ok (.aload_n 0, 1) := by decide +kernel
theorem dX1_pushAgain_32 : decode cX1_pushAgain 32 = .ok (.getfield 16, 3) := by decide +kernel
theorem dX1_pushAgain_35 : decode cX1_pushAgain 35 = .ok (.iload 7, 2) := by decide +kernel
theorem dX1_pushAgain_37 : decode cX1_pushAgain 37 = .ok (.laload, 1) := by decide +kernel
theorem dX1_pushAgain_38 : decode cX1_pushAgain 38 = .ok (.aload_n 0, 1) := by decide +kernel
theorem dX1_pushAgain_39 : decode cX1_pushAgain 39 = .ok (.getfield 19, 3) := by decide +kernel
theorem dX1_pushAgain_42 : decode cX1_pushAgain 42 = .ok (.iload 7, 2) := by decide +kernel
theorem dX1_pushAgain_44 : decode cX1_pushAgain 44 = .ok (.iaload, 1) := by decide +kernel
theorem dX1_pushAgain_45 : decode cX1_pushAgain 45 = .ok (.aload_n 0, 1) := by decide +kernel
theorem dX1_pushAgain_46 : decode cX1_pushAgain 46 = .ok (.getfield 23, 3) := by decide +kernel
theorem dX1_pushAgain_49 : decode cX1_pushAgain 49 = .ok (.iload 7, 2) := by decide +kernel
theorem dX1_pushAgain_51 : decode cX1_pushAgain 51 = .ok (.baload, 1) := by decide +kernel
theorem dX1_pushAgain_52 : decode cX1_pushAgain 52 = .ok (.invokevirtual 55, 3) := by decide +kernel
theorem dX1_pushAgain_55 : decode cX1_pushAgain 55 = .ok (.iinc 7 1, 3) := by decide +kernel
theorem dX1_pushAgain_58 : decode cX1_pushAgain 58 = .ok (.goto (-55), 3) := by decide +kernel
theorem dX1_pushAgain_61 : decode cX1_pushAgain 61 = .ok (.return_, 1) := by decide +kernel
theorem dX1_scale_0 : decode cX1_scale 0 = .ok (.lload_n 2, 1) := by decide +kernel
theorem dX1_scale_1 : decode cX1_scale 1 = .ok (.lconst 1, 1) := by decide +kernel
theorem dX1_scale_2 : decode cX1_scale 2 = .ok (.lcmp, 1) := by decide +kernel
theorem dX1_scale_3 : decode cX1_scale 3 = .ok (.ifCond .ne 11, 3) := by decide +kernel
theorem dX1_scale_6 : decode cX1_scale 6 = .ok (.lload 4, 2) := by decide +kernel
theorem dX1_scale_8 : decode cX1_scale 8 = .ok (.lconst 0, 1) := by decide +kernel
theorem dX1_scale_9 : decode cX1_scale 9 = .ok (.lcmp, 1) := by decide +kernel
theorem dX1_scale_10 : decode cX1_scale 10 = .ok (.ifCond .ne 4, 3) := by decide +kernel
theorem dX1_scale_13 : decode cX1_scale 13 = .ok (.return_, 1) := by decide +kernel
theorem dX1_scale_14 : decode cX1_scale 14 = .ok (.iload_n 1, 1) := by decide +kernel
theorem dX1_scale_15 : decode cX1_scale 15 = .ok (.istore 6, 2) := by decide +kernel
theorem dX1_scale_17 : decode cX1_scale 17 = .ok (.iload 6, 2) := by decide +kernel
theorem dX1_scale_19 : decode cX1_scale 19 = .ok (.aload_n 0, 1) := by decide +kernel
theorem dX1_scale_20 : decode cX1_scale 20 = .ok (.getfield 30, 3) := by decide +kernel
theorem dX1_scale_23 : decode cX1_scale 23 = .ok (.if_icmp .ge 44, 3) := by decide +kernel
theorem dX1_scale_26 : decode cX1_scale 26 = .ok (.aload_n 0, 1) := by decide +kernel
theorem dX1_scale_27 : decode cX1_scale 27 = .ok (.getfield 9, 3) := by decide +kernel
theorem dX1_scale_30 : decode cX1_scale 30 = .ok (.iload 6, 2) := by decide +kernel
theorem dX1_scale_32 : decode cX1_scale 32 = .ok (.aload_n 0, 1) := by decide +kernel
theorem dX1_scale_33 : decode cX1_scale 33 = .ok (.getfield 9, 3) := by decide +kernel
theorem dX1_scale_36 : decode cX1_scale 36 = .ok (.iload 6, 2) := by decide +kernel
theorem dX1_scale_38 : decode cX1_scale 38 = .ok (.laload, 1) := by decide +kernel
theorem dX1_scale_39 : decode cX1_scale 39 = .ok (.lload_n 2, 1) := by decide +kernel
theorem dX1_scale_40 : decode cX1_scale 40 = .ok (.lmul, 1) := by decide +kernel
theorem dX1_scale_41 : decode cX1_scale 41 = .ok (.lload 4, 2) := by decide +kernel
theorem dX1_scale_43 : decode cX1_scale 43 = .ok (.ladd, 1) := by decide +kernel
theorem dX1_scale_44 : decode cX1_scale 44 = .ok (.lastore, 1) := by decide +kernel
theorem dX1_scale_45 : decode cX1_scale 45 = .ok (.aload_n 0, 1) := by decide +kernel
theorem dX1_scale_46 : decode cX1_scale 46 = .ok (.getfield 13, 3) := by decide +kernel
theorem dX1_scale_49 : decode cX1_scale 49 = .ok (.iload 6, 2) := by decide +kernel
theorem dX1_scale_51 : decode cX1_scale 51 = .ok (.aload_n 0, 1) := by decide +kernel
theorem dX1_scale_52 : decode cX1_scale 52 = .ok (.getfield 13, 3) := by decide +kernel
theorem dX1_scale_55 : decode cX1_scale 55 = .ok (.iload 6, 2) := by decide +kernel
theorem dX1_scale_57 : decode cX1_scale 57 = .ok (.laload, 1) := by decide +kernel
theorem dX1_scale_58 : decode cX1_scale 58 = .ok (.lload_n 2, 1) := by decide +kernel
theorem dX1_scale_59 : decode cX1_scale 59 = .ok (.lmul, 1) := by decide +kernel
theorem dX1_scale_60 : decode cX1_scale 60 = .ok (.lastore, 1) := by decide +kernel
theorem dX1_scale_61 : decode cX1_scale 61 = .ok (.iinc 6 1, 3) := by decide +kernel
theorem dX1_scale_64 : decode cX1_scale 64 = .ok (.goto (-47), 3) := by decide +kernel
theorem dX1_scale_67 : decode cX1_scale 67 = .ok (.return_, 1) := by decide +kernel
theorem dX1_move_0 : decode cX1_move 0 = .ok (.iload_n 1, 1) := by decide +kernel
theorem dX1_move_1 : decode cX1_move 1 = .ok (.iload_n 2, 1) := by decide +kernel
theorem dX1_move_2 : decode cX1_move 2 = .ok (.if_icmp .ne 4, 3) := by decide +kernel
theorem dX1_move_5 : decode cX1_move 5 = .ok (.return_, 1) := by decide +kernel
theorem dX1_move_6 : decode cX1_move 6 = .ok (.aload_n 0, 1) := by decide +kernel
theorem dX1_move_7 : decode cX1_move 7 = .ok (.getfield 9, 3) := by decide +kernel
theorem dX1_move_10 : decode cX1_move 10 = .ok (.iload_n 2, 1) := by decide +kernel
theorem dX1_move_11 : decode cX1_move 11 = .ok (.aload_n 0, 1) := by decide +kernel
theorem dX1_move_12 : decode cX1_move 12 = .ok (.getfield 9, 3) := by decide +kernel
theorem dX1_move_15 : decode cX1_move 15 = .ok (.iload_n 1, 1) := by decide +kernel
theorem dX1_move_16 : decode cX1_move 16 = .ok (.laload, 1) := by decide +kernel
theorem dX1_move_17 : decode cX1_move 17 = .ok (.lastore, 1) := by decide +kernel
theorem dX1_move_18 : decode cX1_move 18 = .ok (.aload_n 0, 1) := by decide +kernel
theorem dX1_move_19 : decode cX1_move 19 = .ok (.getfield 13, 3) := by decide +kernel
theorem dX1_move_22 : decode cX1_move 22 = .ok (.iload_n 2, 1) := by decide +kernel
theorem dX1_move_23 : decode cX1_move 23 = .ok (.aload_n 0, 1) := by decide +kernel
theorem dX1_move_24 : decode cX1_move 24 = .ok (.getfield 13, 3) := by decide +kernel
theorem dX1_move_27 : decode cX1_move 27 = .ok (.iload_n 1, 1) := by decide +kernel
theorem dX1_move_28 : decode cX1_move 28 = .ok (.laload, 1) := by decide +kernel
theorem dX1_move_29 : decode cX1_move 29 = .ok (.lastore, 1) := by decide +kernel
theorem dX1_move_30 : decode cX1_move 30 = .ok (.aload_n 0, 1) := by decide +kernel
theorem dX1_move_31 : decode cX1_move 31 = .ok (.getfield 16, 3) := by decide +kernel
theorem dX1_move_34 : decode cX1_move 34 = .ok (.iload_n 2, 1) := by decide +kernel
theorem dX1_move_35 : decode cX1_move 35 = .ok (.aload_n 0, 1) := by decide +kernel
theorem dX1_move_36 : decode cX1_move 36 = .ok (.getfield 16, 3) := by decide +kernel
theorem dX1_move_39 : decode cX1_move 39 = .ok (.iload_n 1, 1) := by decide +kernel
theorem dX1_move_40 : decode cX1_move 40 = .ok (.laload, 1) := by decide +kernel
theorem dX1_move_41 : decode cX1_move 41 = .ok (.lastore, 1) := by decide +kernel
theorem dX1_move_42 : decode cX1_move 42 = .ok (.aload_n 0, 1) := by decide +kernel
theorem dX1_move_43 : decode cX1_move 43 = .ok (.getfield 19, 3) := by decide +kernel
theorem dX1_move_46 : decode cX1_move 46 = .ok (.iload_n 2, 1) := by decide +kernel
theorem dX1_move_47 : decode cX1_move 47 = .ok (.aload_n 0, 1) := by decide +kernel
theorem dX1_move_48 : decode cX1_move 48 = .ok (.getfield 19, 3) := by decide +kernel
theorem dX1_move_51 : decode cX1_move 51 = .ok (.iload_n 1, 1) := by decide +kernel
theorem dX1_move_52 : decode cX1_move 52 = .ok (.iaload, 1) := by decide +kernel
theorem dX1_move_53 : decode cX1_move 53 = .ok (.iastore, 1) := by decide +kernel
theorem dX1_move_54 : decode cX1_move 54 = .ok (.aload_n 0, 1) := by decide +kernel
theorem dX1_move_55 : decode cX1_move 55 = .ok (.getfield 23, 3) := by decide +kernel
theorem dX1_move_58 : decode cX1_move 58 = .ok (.iload_n 2, 1) := by decide +kernel
theorem dX1_move_59 : decode cX1_move 59 = .ok (.aload_n 0, 1) := by decide +kernel
theorem dX1_move_60 : decode cX1_move 60 = .ok (.getfield 23, 3) := by decide +kernel
theorem dX1_move_63 : decode cX1_move 63 = .ok (.iload_n 1, 1) := by decide +kernel
theorem dX1_move_64 : decode cX1_move 64 = .ok (.baload, 1) := by decide +kernel
theorem dX1_move_65 : decode cX1_move 65 = .ok (.bastore, 1) := by decide +kernel
theorem dX1_move_66 : decode cX1_move 66 = .ok (.aload_n 0, 1) := by decide +kernel
theorem dX1_move_67 : decode cX1_move 67 = .ok (.getfield 27, 3) := by decide +kernel
theorem dX1_move_70 : decode cX1_move 70 = .ok (.iload_n 2, 1) := by decide +kernel
theorem dX1_move_71 : decode cX1_move 71 = .ok (.aload_n 0, 1) := by decide +kernel
theorem dX1_move_72 : decode cX1_move 72 = .ok (.getfield 27, 3) := by decide +kernel
theorem dX1_move_75 : decode cX1_move 75 = .ok (.iload_n 1, 1) := by decide +kernel
theorem dX1_move_76 : decode cX1_move 76 = .ok (.iaload, 1) := by decide +kernel
theorem dX1_move_77 : decode cX1_move 77 = .ok (.iastore, 1) := by decide +kernel
theorem dX1_move_78 : decode cX1_move 78 = .ok (.return_, 1) := by decide +kernel
theorem dX1_choose_0 : decode cX1_choose 0 = .ok (.iload_n 1, 1) := by decide +kernel
theorem dX1_choose_1 : decode cX1_choose 1 = .ok (.istore 7, 2) := by decide +kernel
theorem dX1_choose_3 : decode cX1_choose 3 = .ok (.iload_n 1, 1) := by decide +kernel
theorem dX1_choose_4 : decode cX1_choose 4 = .ok (.istore 8, 2) := by decide +kernel
theorem dX1_choose_6 : decode cX1_choose 6 = .ok (.iload 8, 2) := by decide +kernel
theorem dX1_choose_8 : decode cX1_choose 8 = .ok (.aload_n 0, 1) := by decide +kernel
theorem dX1_choose_9 : decode cX1_choose 9 = .ok (.getfield 30, 3) := by decide +kernel
theorem dX1_choose_12 : decode cX1_choose 12 = .ok (.if_icmp .ge 55, 3) := by decide +kernel
theorem dX1_choose_15 : decode cX1_choose 15 = .ok (.aload_n 0, 1) := by decide +kernel
theorem dX1_choose_16 : decode cX1_choose 16 = .ok (.getfield 9, 3) := by decide +kernel
theorem dX1_choose_19 : decode cX1_choose 19 = .ok (.iload 8, 2) := by decide +kernel
theorem dX1_choose_21 : decode cX1_choose 21 = .ok (.laload, 1) := by decide +kernel
theorem dX1_choose_22 : decode cX1_choose 22 = .ok (.lload_n 2, 1) := by decide +kernel
theorem dX1_choose_23 : decode cX1_choose 23 = .ok (.lcmp, 1) := by decide +kernel
theorem dX1_choose_24 : decode cX1_choose 24 = .ok (.ifCond .lt 20, 3) := by decide +kernel
theorem dX1_choose_27 : decode cX1_choose 27 = .ok (.aload_n 0, 1) := by decide +kernel
theorem dX1_choose_28 : decode cX1_choose 28 = .ok (.getfield 9, 3) := by decide +kernel
theorem dX1_choose_31 : decode cX1_choose 31 = .ok (.iload 8, 2) := by decide +kernel
theorem dX1_choose_33 : decode cX1_choose 33 = .ok (.laload, 1) := by decide +kernel
theorem dX1_choose_34 : decode cX1_choose 34 = .ok (.lload 4, 2) := by decide +kernel
theorem dX1_choose_36 : decode cX1_choose 36 = .ok (.lcmp, 1) := by decide +kernel
theorem dX1_choose_37 : decode cX1_choose 37 = .ok (.ifCond .ge 7, 3) := by decide +kernel
theorem dX1_choose_40 : decode cX1_choose 40 = .ok (.iconst 1, 1) := by decide +kernel
theorem dX1_choose_41 : decode cX1_choose 41 = .ok (.goto 4, 3) := by decide +kernel
theorem dX1_choose_44 : decode cX1_choose 44 = .ok (.iconst 0, 1) := by decide +kernel
theorem dX1_choose_45 : decode cX1_choose 45 = .ok (.iload 6, 2) := by decide +kernel
theorem dX1_choose_47 : decode cX1_choose 47 = .ok (.if_icmp .ne 14, 3) := by decide +kernel
theorem dX1_choose_50 : decode cX1_choose 50 = .ok (.aload_n 0, 1) := by decide +kernel
theorem dX1_choose_51 : decode cX1_choose 51 = .ok (.iload 8, 2) := by decide +kernel
theorem dX1_choose_53 : decode cX1_choose 53 = .ok (.iload 7, 2) := by decide +kernel
theorem dX1_choose_55 : decode cX1_choose 55 = .ok (.invokevirtual 59, 3) := by decide +kernel
theorem dX1_choose_58 : decode cX1_choose 58 = .ok (.iinc 7 1, 3) := by decide +kernel
theorem dX1_choose_61 : decode cX1_choose 61 = .ok (.iinc 8 1, 3) := by decide +kernel
theorem dX1_choose_64 : decode cX1_choose 64 = .ok (.goto (-58), 3) := by decide +kernel
theorem dX1_choose_67 : decode cX1_choose 67 = .ok (.aload_n 0, 1) := by decide +kernel
theorem dX1_choose_68 : decode cX1_choose 68 = .ok (.iload 7, 2) := by decide +kernel
theorem dX1_choose_70 : decode cX1_choose 70 = .ok (.putfield 30, 3) := by decide +kernel
theorem dX1_choose_73 : decode cX1_choose 73 = .ok (.return_, 1) := by decide +kernel
theorem dX1_chooseMarked_0 : decode cX1_chooseMarked 0 = .ok (.iload_n 1, 1) := by decide +kernel
theorem dX1_chooseMarked_1 : decode cX1_chooseMarked 1 = .ok (.istore_n 3, 1) := by decide +kernel
theorem dX1_chooseMarked_2 : decode cX1_chooseMarked 2 = .ok (.iload_n 1, 1) := by decide +kernel
theorem dX1_chooseMarked_3 : decode cX1_chooseMarked 3 = .ok (.istore 4, 2) := by decide +kernel
theorem dX1_chooseMarked_5 : decode cX1_chooseMarked 5 = .ok (.iload 4, 2) := by decide +kernel
theorem dX1_chooseMarked_7 : decode cX1_chooseMarked 7 = .ok (.aload_n 0, 1) := by decide +kernel
theorem dX1_chooseMarked_8 : decode cX1_chooseMarked 8 = .ok (.getfield 30, 3) := by decide +kernel
theorem dX1_chooseMarked_11 : decode cX1_chooseMarked 11 = .ok (.if_icmp .ge 30, 3) := by decide +kernel
theorem dX1_chooseMarked_14 : decode cX1_chooseMarked 14 = .ok (.aload_n 0, 1) := by decide +kernel
theorem dX1_chooseMarked_15 : decode cX1_chooseMarked 15 = .ok (.getfield 27, 3) := by decide +kernel
theorem dX1_chooseMarked_18 : decode cX1_chooseMarked 18 = .ok (.iload 4, 2) := by decide +kernel
theorem dX1_chooseMarked_20 : decode cX1_chooseMarked 20 = .ok (.iaload, 1) := by decide +kernel
theorem dX1_chooseMarked_21 : decode cX1_chooseMarked 21 = .ok (.iload_n 2, 1) := by decide +kernel
theorem dX1_chooseMarked_22 : decode cX1_chooseMarked 22 = .ok (.if_icmp .ne 13, 3) := by decide +kernel
theorem dX1_chooseMarked_25 : decode cX1_chooseMarked 25 = .ok (.aload_n 0, 1) := by decide +kernel
theorem dX1_chooseMarked_26 : decode cX1_chooseMarked 26 = .ok (.iload 4, 2) := by decide +kernel
theorem dX1_chooseMarked_28 : decode cX1_chooseMarked 28 = .ok (.iload_n 3, 1) := by decide +kernel
theorem dX1_chooseMarked_29 : decode cX1_chooseMarked 29 = .ok (.invokevirtual 59, 3) := by decide +kernel
theorem dX1_chooseMarked_32 : decode cX1_chooseMarked 32 = .ok (.iinc 3 1, 3) := by decide +kernel
theorem dX1_chooseMarked_35 : decode cX1_chooseMarked 35 = .ok (.iinc 4 1, 3) := by decide +kernel
theorem dX1_chooseMarked_38 : decode cX1_chooseMarked 38 = .ok (.goto (-33), 3) := by decide +kernel
theorem dX1_chooseMarked_41 : decode cX1_chooseMarked 41 = .ok (.aload_n 0, 1) := by decide +kernel
theorem dX1_chooseMarked_42 : decode cX1_chooseMarked 42 = .ok (.iload_n 3, 1) := by decide +kernel
theorem dX1_chooseMarked_43 : decode cX1_chooseMarked 43 = .ok (.putfield 30, 3) := by decide +kernel
theorem dX1_chooseMarked_46 : decode cX1_chooseMarked 46 = .ok (.return_, 1) := by decide +kernel
theorem dX1_remove_0 : decode cX1_remove 0 = .ok (.iload_n 1, 1) := by decide +kernel
theorem dX1_remove_1 : decode cX1_remove 1 = .ok (.istore_n 3, 1) := by decide +kernel
theorem dX1_remove_2 : decode cX1_remove 2 = .ok (.iload_n 2, 1) := by decide +kernel
theorem dX1_remove_3 : decode cX1_remove 3 = .ok (.istore 4, 2) := by decide +kernel
theorem dX1_remove_5 : decode cX1_remove 5 = .ok (.iload 4, 2) := by decide +kernel
theorem dX1_remove_7 : decode cX1_remove 7 = .ok (.aload_n 0, 1) := by decide +kernel
theorem dX1_remove_8 : decode cX1_remove 8 = .ok (.getfield 30, 3) := by decide +kernel
theorem dX1_remove_11 : decode cX1_remove 11 = .ok (.if_icmp .ge 19, 3) := by decide +kernel
theorem dX1_remove_14 : decode cX1_remove 14 = .ok (.aload_n 0, 1) := by decide +kernel
theorem dX1_remove_15 : decode cX1_remove 15 = .ok (.iload 4, 2) := by decide +kernel
theorem dX1_remove_17 : decode cX1_remove 17 = .ok (.iload_n 3, 1) := by decide +kernel
theorem dX1_remove_18 : decode cX1_remove 18 = .ok (.invokevirtual 59, 3) := by decide +kernel
theorem dX1_remove_21 : decode cX1_remove 21 = .ok (.iinc 3 1, 3) := by decide +kernel
theorem dX1_remove_24 : decode cX1_remove 24 = .ok (.iinc 4 1, 3) := by decide +kernel
theorem dX1_remove_27 : decode cX1_remove 27 = .ok (.goto (-22), 3) := by decide +kernel
theorem dX1_remove_30 : decode cX1_remove 30 = .ok (.aload_n 0, 1) := by decide +kernel
theorem dX1_remove_31 : decode cX1_remove 31 = .ok (.iload_n 3, 1) := by decide +kernel
theorem dX1_remove_32 : decode cX1_remove 32 = .ok (.putfield 30, 3) := by decide +kernel
theorem dX1_remove_35 : decode cX1_remove 35 = .ok (.return_, 1) := by decide +kernel
theorem dX1_isLoud_0 : decode cX1_isLoud 0 = .ok (.aload_n 0, 1) := by decide +kernel
theorem dX1_isLoud_1 : decode cX1_isLoud 1 = .ok (.getfield 16, 3) := by decide +kernel
theorem dX1_isLoud_4 : decode cX1_isLoud 4 = .ok (.iload_n 1, 1) := by decide +kernel
theorem dX1_isLoud_5 : decode cX1_isLoud 5 = .ok (.laload, 1) := by decide +kernel
theorem dX1_isLoud_6 : decode cX1_isLoud 6 = .ok (.lconst 0, 1) := by decide +kernel
theorem dX1_isLoud_7 : decode cX1_isLoud 7 = .ok (.lcmp, 1) := by decide +kernel
theorem dX1_isLoud_8 : decode cX1_isLoud 8 = .ok (.ifCond .ne 21, 3) := by decide +kernel
theorem dX1_isLoud_11 : decode cX1_isLoud 11 = .ok (.aload_n 0, 1) := by decide +kernel
theorem dX1_isLoud_12 : decode cX1_isLoud 12 = .ok (.getfield 23, 3) := by decide +kernel
theorem dX1_isLoud_15 : decode cX1_isLoud 15 = .ok (.iload_n 1, 1) := by decide +kernel
theorem dX1_isLoud_16 : decode cX1_isLoud 16 = .ok (.baload, 1) := by decide +kernel
theorem dX1_isLoud_17 : decode cX1_isLoud 17 = .ok (.ifCond .eq 16, 3) := by decide +kernel
theorem dX1_isLoud_20 : decode cX1_isLoud 20 = .ok (.aload_n 0, 1) := by decide +kernel
theorem dX1_isLoud_21 : decode cX1_isLoud 21 = .ok (.getfield 19, 3) := by decide +kernel
theorem dX1_isLoud_24 : decode cX1_isLoud 24 = .ok (.iload_n 1, 1) := by decide +kernel
theorem dX1_isLoud_25 : decode cX1_isLoud 25 = .ok (.iaload, 1) := by decide +kernel
theorem dX1_isLoud_26 : decode cX1_isLoud 26 = .ok (.ifCond .eq 7, 3) := by decide +kernel
theorem dX1_isLoud_29 : decode cX1_isLoud 29 = .ok (.iconst 1, 1) := by decide +kernel
theorem dX1_isLoud_30 : decode cX1_isLoud 30 = .ok (.goto 4, 3) := by decide +kernel
theorem dX1_isLoud_33 : decode cX1_isLoud 33 = .ok (.iconst 0, 1) := by decide +kernel
theorem dX1_isLoud_34 : decode cX1_isLoud 34 = .ok (.ireturn, 1) := by decide +kernel
theorem dX1_sort_0 : decode cX1_sort 0 = .ok (.aload_n 0, 1) := by decide +kernel
theorem dX1_sort_1 : decode cX1_sort 1 = .ok (.getfield 30, 3) := by decide +kernel
theorem dX1_sort_4 : decode cX1_sort 4 = .ok (.iload_n 1, 1) := by decide +kernel
theorem dX1_sort_5 : decode cX1_sort 5 = .ok (.isub, 1) := by decide +kernel
theorem dX1_sort_6 : decode cX1_sort 6 = .ok (.istore_n 2, 1) := by decide +kernel
theorem dX1_sort_7 : decode cX1_sort 7 = .ok (.iload_n 2, 1) := by decide +kernel
theorem dX1_sort_8 : decode cX1_sort 8 = .ok (.sipush 1024, 3) := by decide +kernel
theorem dX1_sort_11 : decode cX1_sort 11 = .ok (.if_icmp .gt 11, 3) := by decide +kernel
theorem dX1_sort_14 : decode cX1_sort 14 = .ok (.aload_n 0, 1) := by decide +kernel
theorem dX1_sort_15 : decode cX1_sort 15 = .ok (.iload_n 1, 1) := by decide +kernel
theorem dX1_sort_16 : decode cX1_sort 16 = .ok (.invokevirtual 63, 3) := by decide +kernel
theorem dX1_sort_19 : decode cX1_sort 19 = .ok (.ifCond .eq 4, 3) := by decide +kernel
theorem dX1_sort_22 : decode cX1_sort 22 = .ok (.return_, 1) := by decide +kernel
theorem dX1_sort_23 : decode cX1_sort 23 = .ok (.iconst 0, 1) := by decide +kernel
theorem dX1_sort_24 : decode cX1_sort 24 = .ok (.istore_n 3, 1) := by decide +kernel
theorem dX1_sort_25 : decode cX1_sort 25 = .ok (.iload_n 3, 1) := by decide +kernel
theorem dX1_sort_26 : decode cX1_sort 26 = .ok (.iload_n 2, 1) := by decide +kernel
theorem dX1_sort_27 : decode cX1_sort 27 = .ok (.if_icmp .ge 30, 3) := by decide +kernel
theorem dX1_sort_30 : decode cX1_sort 30 = .ok (.aload_n 0, 1) := by decide +kernel
theorem dX1_sort_31 : decode cX1_sort 31 = .ok (.getfield 49, 3) := by decide +kernel
theorem dX1_sort_34 : decode cX1_sort 34 = .ok (.iload_n 3, 1) := by decide +kernel
theorem dX1_sort_35 : decode cX1_sort 35 = .ok (.aload_n 0, 1) := by decide +kernel
theorem dX1_sort_36 : decode cX1_sort 36 = .ok (.getfield 9, 3) := by decide +kernel
theorem dX1_sort_39 : decode cX1_sort 39 = .ok (.iload_n 1, 1) := by decide +kernel
theorem dX1_sort_40 : decode cX1_sort 40 = .ok (.iload_n 3, 1) := by decide +kernel
theorem dX1_sort_41 : decode cX1_sort 41 = .ok (.iadd, 1) := by decide +kernel
theorem dX1_sort_42 : decode cX1_sort 42 = .ok (.laload, 1) := by decide +kernel
theorem dX1_sort_43 : decode cX1_sort 43 = .ok (.ldc2_w 67, 3) := by decide +kernel
theorem dX1_sort_46 : decode cX1_sort 46 = .ok (.lmul, 1) := by decide +kernel
theorem dX1_sort_47 : decode cX1_sort 47 = .ok (.iload_n 3, 1) := by decide +kernel
theorem dX1_sort_48 : decode cX1_sort 48 = .ok (.i2l, 1) := by decide +kernel
theorem dX1_sort_49 : decode cX1_sort 49 = .ok (.ladd, 1) := by decide +kernel
theorem dX1_sort_50 : decode cX1_sort 50 = .ok (.lastore, 1) := by decide +kernel
theorem dX1_sort_51 : decode cX1_sort 51 = .ok (.iinc 3 1, 3) := by decide +kernel
theorem dX1_sort_54 : decode cX1_sort 54 = .ok (.goto (-29), 3) := by decide +kernel
theorem dX1_sort_57 : decode cX1_sort 57 = .ok (.iconst 0, 1) := by decide +kernel
theorem dX1_sort_58 : decode cX1_sort 58 = .ok (.istore_n 3, 1) := by decide +kernel
theorem dX1_sort_59 : decode cX1_sort 59 = .ok (.iload_n 3, 1) := by decide +kernel
theorem dX1_sort_60 : decode cX1_sort 60 = .ok (.sipush 1024, 3) := by decide +kernel
theorem dX1_sort_63 : decode cX1_sort 63 = .ok (.if_icmp .ge 17, 3) := by decide +kernel
theorem dX1_sort_66 : decode cX1_sort 66 = .ok (.aload_n 0, 1) := by decide +kernel
theorem dX1_sort_67 : decode cX1_sort 67 = .ok (.iload_n 2, 1) := by decide +kernel
theorem dX1_sort_68 : decode cX1_sort 68 = .ok (.invokevirtual 69, 3) := by decide +kernel
theorem dX1_sort_71 : decode cX1_sort 71 = .ok (.ifCond .ne 9, 3) := by decide +kernel
theorem dX1_sort_74 : decode cX1_sort 74 = .ok (.iinc 3 1, 3) := by decide +kernel
theorem dX1_sort_77 : decode cX1_sort 77 = .ok (.goto (-18), 3) := by decide +kernel
theorem dX1_sort_80 : decode cX1_sort 80 = .ok (.aload_n 0, 1) := by decide +kernel
theorem dX1_sort_81 : decode cX1_sort 81 = .ok (.iload_n 1, 1) := by decide +kernel
theorem dX1_sort_82 : decode cX1_sort 82 = .ok (.iload_n 2, 1) := by decide +kernel
theorem dX1_sort_83 : decode cX1_sort 83 = .ok (.invokevirtual 72, 3) := by decide +kernel
theorem dX1_sort_86 : decode cX1_sort 86 = .ok (.iconst 0, 1) := by decide +kernel
theorem dX1_sort_87 : decode cX1_sort 87 = .ok (.istore_n 3, 1) := by decide +kernel
theorem dX1_sort_88 : decode cX1_sort 88 = .ok (.iload_n 3, 1) := by decide +kernel
theorem dX1_sort_89 : decode cX1_sort 89 = .ok (.iload_n 2, 1) := by decide +kernel
theorem dX1_sort_90 : decode cX1_sort 90 = .ok (.if_icmp .ge 61, 3) := by decide +kernel
theorem dX1_sort_93 : decode cX1_sort 93 = .ok (.aload_n 0, 1) := by decide +kernel
theorem dX1_sort_94 : decode cX1_sort 94 = .ok (.getfield 49, 3) := by decide +kernel
theorem dX1_sort_97 : decode cX1_sort 97 = .ok (.iload_n 3, 1) := by decide +kernel
theorem dX1_sort_98 : decode cX1_sort 98 = .ok (.laload, 1) := by decide +kernel
theorem dX1_sort_99 : decode cX1_sort 99 = .ok (.ldc2_w 67, 3) := by decide +kernel
theorem dX1_sort_102 : decode cX1_sort 102 = .ok (.lrem, 1) := by decide +kernel
theorem dX1_sort_103 : decode cX1_sort 103 = .ok (.l2i, 1) := by decide +kernel
theorem dX1_sort_104 : decode cX1_sort 104 = .ok (.istore 4, 2) := by decide +kernel
theorem dX1_sort_106 : decode cX1_sort 106 = .ok (.aload_n 0, 1) := by decide +kernel
theorem dX1_sort_107 : decode cX1_sort 107 = .ok (.getfield 9, 3) := by decide +kernel
theorem dX1_sort_110 : decode cX1_sort 110 = .ok (.iload_n 1, 1) := by decide +kernel
theorem dX1_sort_111 : decode cX1_sort 111 = .ok (.iload_n 3, 1) := by decide +kernel
theorem dX1_sort_112 : decode cX1_sort 112 = .ok (.iadd, 1) := by decide +kernel
theorem dX1_sort_113 : decode cX1_sort 113 = .ok (.aload_n 0, 1) := by decide +kernel
theorem dX1_sort_114 : decode cX1_sort 114 = .ok (.getfield 43, 3) := by decide +kernel
theorem dX1_sort_117 : decode cX1_sort 117 = .ok (.iload 4, 2) := by decide +kernel
theorem dX1_sort_119 : decode cX1_sort 119 = .ok (.laload, 1) := by decide +kernel
theorem dX1_sort_120 : decode cX1_sort 120 = .ok (.lastore, 1) := by decide +kernel
theorem dX1_sort_121 : decode cX1_sort 121 = .ok (.aload_n 0, 1) := by decide +kernel
theorem dX1_sort_122 : decode cX1_sort 122 = .ok (.getfield 13, 3) := by decide +kernel
theorem dX1_sort_125 : decode cX1_sort 125 = .ok (.iload_n 1, 1) := by decide +kernel
theorem dX1_sort_126 : decode cX1_sort 126 = .ok (.iload_n 3, 1) := by decide +kernel
theorem dX1_sort_127 : decode cX1_sort 127 = .ok (.iadd, 1) := by decide +kernel
theorem dX1_sort_128 : decode cX1_sort 128 = .ok (.aload_n 0, 1) := by decide +kernel
theorem dX1_sort_129 : decode cX1_sort 129 = .ok (.getfield 46, 3) := by decide +kernel
theorem dX1_sort_132 : decode cX1_sort 132 = .ok (.iload 4, 2) := by decide +kernel
theorem dX1_sort_134 : decode cX1_sort 134 = .ok (.laload, 1) := by decide +kernel
theorem dX1_sort_135 : decode cX1_sort 135 = .ok (.lastore, 1) := by decide +kernel
theorem dX1_sort_136 : decode cX1_sort 136 = .ok (.aload_n 0, 1) := by decide +kernel
theorem dX1_sort_137 : decode cX1_sort 137 = .ok (.iload_n 1, 1) := by decide +kernel
theorem dX1_sort_138 : decode cX1_sort 138 = .ok (.iload_n 3, 1) := by decide +kernel
theorem dX1_sort_139 : decode cX1_sort 139 = .ok (.iadd, 1) := by decide +kernel
theorem dX1_sort_140 : decode cX1_sort 140 = .ok (.iload 4, 2) := by decide +kernel
theorem dX1_sort_142 : decode cX1_sort 142 = .ok (.invokevirtual 75, 3) := by decide +kernel
theorem dX1_sort_145 : decode cX1_sort 145 = .ok (.iinc 3 1, 3) := by decide +kernel
theorem dX1_sort_148 : decode cX1_sort 148 = .ok (.goto (-60), 3) := by decide +kernel
theorem dX1_sort_151 : decode cX1_sort 151 = .ok (.return_, 1) := by decide +kernel
theorem dX1_isSorted_0 : decode cX1_isSorted 0 = .ok (.iload_n 1, 1) := by decide +kernel
theorem dX1_isSorted_1 : decode cX1_isSorted 1 = .ok (.iconst 1, 1) := by decide +kernel
theorem dX1_isSorted_2 : decode cX1_isSorted 2 = .ok (.iadd, 1) := by decide +kernel
theorem dX1_isSorted_3 : decode cX1_isSorted 3 = .ok (.istore_n 2, 1) := by decide +kernel
theorem dX1_isSorted_4 : decode cX1_isSorted 4 = .ok (.iload_n 2, 1) := by decide +kernel
theorem dX1_isSorted_5 : decode cX1_isSorted 5 = .ok (.aload_n 0, 1) := by decide +kernel
theorem dX1_isSorted_6 : decode cX1_isSorted 6 = .ok (.getfield 30, 3) := by decide +kernel
theorem dX1_isSorted_9 : decode cX1_isSorted 9 = .ok (.if_icmp .ge 29, 3) := by decide +kernel
theorem dX1_isSorted_12 : decode cX1_isSorted 12 = .ok (.aload_n 0, 1) := by decide +kernel
theorem dX1_isSorted_13 : decode cX1_isSorted 13 = .ok (.getfield 9, 3) := by decide +kernel
theorem dX1_isSorted_16 : decode cX1_isSorted 16 = .ok (.iload_n 2, 1) := by decide +kernel
theorem dX1_isSorted_17 : decode cX1_isSorted 17 = .ok (.iconst 1, 1) := by decide +kernel
theorem dX1_isSorted_18 : decode cX1_isSorted 18 = .ok (.isub, 1) := by decide +kernel
theorem dX1_isSorted_19 : decode cX1_isSorted 19 = .ok (.laload, 1) := by decide +kernel
theorem dX1_isSorted_20 : decode cX1_isSorted 20 = .ok (.aload_n 0, 1) := by decide +kernel
theorem dX1_isSorted_21 : decode cX1_isSorted 21 = .ok (.getfield 9, 3) := by decide +kernel
theorem dX1_isSorted_24 : decode cX1_isSorted 24 = .ok (.iload_n 2, 1) := by decide +kernel
theorem dX1_isSorted_25 : decode cX1_isSorted 25 = .ok (.laload, 1) := by decide +kernel
theorem dX1_isSorted_26 : decode cX1_isSorted 26 = .ok (.lcmp, 1) := by decide +kernel
theorem dX1_isSorted_27 : decode cX1_isSorted 27 = .ok (.ifCond .le 5, 3) := by decide +kernel
theorem dX1_isSorted_30 : decode cX1_isSorted 30 = .ok (.iconst 0, 1) := by decide +kernel
theorem dX1_isSorted_31 : decode cX1_isSorted 31 = .ok (.ireturn, 1) := by decide +kernel
theorem dX1_isSorted_32 : decode cX1_isSorted 32 = .ok (.iinc 2 1, 3) := by decide +kernel
theorem dX1_isSorted_35 : decode cX1_isSorted 35 = .ok (.goto (-31), 3) := by decide +kernel
theorem dX1_isSorted_38 : decode cX1_isSorted 38 = .ok (.iconst 1, 1) := by decide +kernel
theorem dX1_isSorted_39 : decode cX1_isSorted 39 = .ok (.ireturn, 1) := by decide +kernel
theorem dX1_copyToSpare_0 : decode cX1_copyToSpare 0 = .ok (.iconst 0, 1) := by decide +kernel
theorem dX1_copyToSpare_1 : decode cX1_copyToSpare 1 = .ok (.istore_n 3, 1) := by decide +kernel
theorem dX1_copyToSpare_2 : decode cX1_copyToSpare 2 = .ok (.iload_n 3, 1) := by decide +kernel
theorem dX1_copyToSpare_3 : decode cX1_copyToSpare 3 = .ok (.iload_n 2, 1) := by decide +kernel
theorem dX1_copyToSpare_4 : decode cX1_copyToSpare 4 = .ok (.if_icmp .ge 79, 3) := by decide +kernel
theorem dX1_copyToSpare_7 : decode cX1_copyToSpare 7 = .ok (.aload_n 0, 1) := by decide +kernel
theorem dX1_copyToSpare_8 : decode cX1_copyToSpare 8 = .ok (.getfield 43, 3) := by decide +kernel
theorem dX1_copyToSpare_11 : decode cX1_copyToSpare 11 = .ok (.iload_n 3, 1) := by decide +kernel
theorem dX1_copyToSpare_12 : decode cX1_copyToSpare 12 = .ok (.aload_n 0, 1) := by decide +kernel
theorem dX1_copyToSpare_13 : decode cX1_copyToSpare 13 = .ok (.getfield 9, 3) := by decide +kernel
theorem dX1_copyToSpare_16 : decode cX1_copyToSpare 16 = .ok (.iload_n 1, 1) := by decide +kernel
theorem dX1_copyToSpare_17 : decode cX1_copyToSpare 17 = .ok (.iload_n 3, 1) := by decide +kernel
theorem dX1_copyToSpare_18 : decode cX1_copyToSpare 18 = .ok (.iadd, 1) := by decide +kernel
theorem dX1_copyToSpare_19 : decode cX1_copyToSpare 19 = .ok (.laload, 1) := by decide +kernel
theorem dX1_copyToSpare_20 : decode cX1_copyToSpare 20 = .ok (.lastore, 1) := by decide +kernel
theorem dX1_copyToSpare_21 : decode cX1_copyToSpare 21 = .ok (.aload_n 0, 1) := by decide +kernel
theorem dX1_copyToSpare_22 : decode cX1_copyToSpare 22 = .ok (.getfield 46, 3) := by decide +kernel
theorem dX1_copyToSpare_25 : decode cX1_copyToSpare 25 = .ok (.iload_n 3, 1) := by decide +kernel
theorem dX1_copyToSpare_26 : decode cX1_copyToSpare 26 = .ok (.aload_n 0, 1) := by decide +kernel
theorem dX1_copyToSpare_27 : decode cX1_copyToSpare 27 = .ok (.getfield 13, 3) := by decide +kernel
theorem dX1_copyToSpare_30 : decode cX1_copyToSpare 30 = .ok (.iload_n 1, 1) := by decide +kernel
theorem dX1_copyToSpare_31 : decode cX1_copyToSpare 31 = .ok (.iload_n 3, 1) := by decide +kernel
theorem dX1_copyToSpare_32 : decode cX1_copyToSpare 32 = .ok (.iadd, 1) := by decide +kernel
theorem dX1_copyToSpare_33 : decode cX1_copyToSpare 33 = .ok (.laload, 1) := by decide +kernel
theorem dX1_copyToSpare_34 : decode cX1_copyToSpare 34 = .ok (.lastore, 1) := by decide +kernel
theorem dX1_copyToSpare_35 : decode cX1_copyToSpare 35 = .ok (.aload_n 0, 1) := by decide +kernel
theorem dX1_copyToSpare_36 : decode cX1_copyToSpare 36 = .ok (.getfield 40, 3) := by decide +kernel
theorem dX1_copyToSpare_39 : decode cX1_copyToSpare 39 = .ok (.iload_n 3, 1) := by decide +kernel
theorem dX1_copyToSpare_40 : decode cX1_copyToSpare 40 = .ok (.aload_n 0, 1) := by decide +kernel
theorem dX1_copyToSpare_41 : decode cX1_copyToSpare 41 = .ok (.getfield 16, 3) := by decide +kernel
theorem dX1_copyToSpare_44 : decode cX1_copyToSpare 44 = .ok (.iload_n 1, 1) := by decide +kernel
theorem dX1_copyToSpare_45 : decode cX1_copyToSpare 45 = .ok (.iload_n 3, 1) := by decide +kernel
theorem dX1_copyToSpare_46 : decode cX1_copyToSpare 46 = .ok (.iadd, 1) := by decide +kernel
theorem dX1_copyToSpare_47 : decode cX1_copyToSpare 47 = .ok (.laload, 1) := by decide +kernel
theorem dX1_copyToSpare_48 : decode cX1_copyToSpare 48 = .ok (.lastore, 1) := by decide +kernel
theorem dX1_copyToSpare_49 : decode cX1_copyToSpare 49 = .ok (.aload_n 0, 1) := by decide +kernel
theorem dX1_copyToSpare_50 : decode cX1_copyToSpare 50 = .ok (.getfield 34, 3) := by decide +kernel
theorem dX1_copyToSpare_53 : decode cX1_copyToSpare 53 = .ok (.iload_n 3, 1) := by decide +kernel
theorem dX1_copyToSpare_54 : decode cX1_copyToSpare 54 = .ok (.aload_n 0, 1) := by decide +kernel
theorem dX1_copyToSpare_55 : decode cX1_copyToSpare 55 = .ok (.getfield 19, 3) := by decide +kernel
theorem dX1_copyToSpare_58 : decode cX1_copyToSpare 58 = .ok (.iload_n 1, 1) := by decide +kernel
theorem dX1_copyToSpare_59 : decode cX1_copyToSpare 59 = .ok (.iload_n 3, 1) := by decide +kernel
theorem dX1_copyToSpare_60 : decode cX1_copyToSpare 60 = .ok (.iadd, 1) := by decide +kernel
theorem dX1_copyToSpare_61 : decode cX1_copyToSpare 61 = .ok (.iaload, 1) := by decide +kernel
theorem dX1_copyToSpare_62 : decode cX1_copyToSpare 62 = .ok (.iastore, 1) := by decide +kernel
theorem dX1_copyToSpare_63 : decode cX1_copyToSpare 63 = .ok (.aload_n 0, 1) := by decide +kernel
theorem dX1_copyToSpare_64 : decode cX1_copyToSpare 64 = .ok (.getfield 37, 3) := by decide +kernel
theorem dX1_copyToSpare_67 : decode cX1_copyToSpare 67 = .ok (.iload_n 3, 1) := by decide +kernel
theorem dX1_copyToSpare_68 : decode cX1_copyToSpare 68 = .ok (.aload_n 0, 1) := by decide +kernel
theorem dX1_copyToSpare_69 : decode cX1_copyToSpare 69 = .ok (.getfield 23, 3) := by decide +kernel
theorem dX1_copyToSpare_72 : decode cX1_copyToSpare 72 = .ok (.iload_n 1, 1) := by decide +kernel
theorem dX1_copyToSpare_73 : decode cX1_copyToSpare 73 = .ok (.iload_n 3, 1) := by decide +kernel
theorem dX1_copyToSpare_74 : decode cX1_copyToSpare 74 = .ok (.iadd, 1) := by decide +kernel
theorem dX1_copyToSpare_75 : decode cX1_copyToSpare 75 = .ok (.baload, 1) := by decide +kernel
theorem dX1_copyToSpare_76 : decode cX1_copyToSpare 76 = .ok (.bastore, 1) := by decide +kernel
theorem dX1_copyToSpare_77 : decode cX1_copyToSpare 77 = .ok (.iinc 3 1, 3) := by decide +kernel
theorem dX1_copyToSpare_80 : decode cX1_copyToSpare 80 = .ok (.goto (-78), 3) := by decide +kernel
theorem dX1_copyToSpare_83 : decode cX1_copyToSpare 83 = .ok (.return_, 1) := by decide +kernel
theorem dX1_takeValue_0 : decode cX1_takeValue 0 = .ok (.aload_n 0, 1) := by decide +kernel
theorem dX1_takeValue_1 : decode cX1_takeValue 1 = .ok (.getfield 16, 3) := by decide +kernel
theorem dX1_takeValue_4 : decode cX1_takeValue 4 = .ok (.iload_n 1, 1) := by decide +kernel
theorem dX1_takeValue_5 : decode cX1_takeValue 5 = .ok (.aload_n 0, 1) := by decide +kernel
theorem dX1_takeValue_6 : decode cX1_takeValue 6 = .ok (.getfield 40, 3) := by decide +kernel
theorem dX1_takeValue_9 : decode cX1_takeValue 9 = .ok (.iload_n 2, 1) := by decide +kernel
theorem dX1_takeValue_10 : decode cX1_takeValue 10 = .ok (.laload, 1) := by decide +kernel
theorem dX1_takeValue_11 : decode cX1_takeValue 11 = .ok (.lastore, 1) := by decide +kernel
theorem dX1_takeValue_12 : decode cX1_takeValue 12 = .ok (.aload_n 0, 1) := by decide +kernel
theorem dX1_takeValue_13 : decode cX1_takeValue 13 = .ok (.getfield 19, 3) := by decide +kernel
theorem dX1_takeValue_16 : decode cX1_takeValue 16 = .ok (.iload_n 1, 1) := by decide +kernel
theorem dX1_takeValue_17 : decode cX1_takeValue 17 = .ok (.aload_n 0, 1) := by decide +kernel
theorem dX1_takeValue_18 : decode cX1_takeValue 18 = .ok (.getfield 34, 3) := by decide +kernel
theorem dX1_takeValue_21 : decode cX1_takeValue 21 = .ok (.iload_n 2, 1) := by decide +kernel
theorem dX1_takeValue_22 : decode cX1_takeValue 22 = .ok (.iaload, 1) := by decide +kernel
theorem dX1_takeValue_23 : decode cX1_takeValue 23 = .ok (.iastore, 1) := by decide +kernel
theorem dX1_takeValue_24 : decode cX1_takeValue 24 = .ok (.aload_n 0, 1) := by decide +kernel
theorem dX1_takeValue_25 : decode cX1_takeValue 25 = .ok (.getfield 23, 3) := by decide +kernel
theorem dX1_takeValue_28 : decode cX1_takeValue 28 = .ok (.iload_n 1, 1) := by decide +kernel
theorem dX1_takeValue_29 : decode cX1_takeValue 29 = .ok (.aload_n 0, 1) := by decide +kernel
theorem dX1_takeValue_30 : decode cX1_takeValue 30 = .ok (.getfield 37, 3) := by decide +kernel
theorem dX1_takeValue_33 : decode cX1_takeValue 33 = .ok (.iload_n 2, 1) := by decide +kernel
theorem dX1_takeValue_34 : decode cX1_takeValue 34 = .ok (.baload, 1) := by decide +kernel
theorem dX1_takeValue_35 : decode cX1_takeValue 35 = .ok (.bastore, 1) := by decide +kernel
theorem dX1_takeValue_36 : decode cX1_takeValue 36 = .ok (.return_, 1) := by decide +kernel
theorem dX1_rotateValues_0 : decode cX1_rotateValues 0 = .ok (.aload_n 0, 1) := by decide +kernel
theorem dX1_rotateValues_1 : decode cX1_rotateValues 1 = .ok (.getfield 30, 3) := by decide +kernel
theorem dX1_rotateValues_4 : decode cX1_rotateValues 4 = .ok (.iload_n 1, 1) := by decide +kernel
theorem dX1_rotateValues_5 : decode cX1_rotateValues 5 = .ok (.isub, 1) := by decide +kernel
theorem dX1_rotateValues_6 : decode cX1_rotateValues 6 = .ok (.istore_n 3, 1) := by decide +kernel
theorem dX1_rotateValues_7 : decode cX1_rotateValues 7 = .ok (.iload_n 3, 1) := by decide +kernel
theorem dX1_rotateValues_8 : decode cX1_rotateValues 8 = .ok (.ifCond .eq 10, 3) := by decide +kernel
theorem dX1_rotateValues_11 : decode cX1_rotateValues 11 = .ok (.iload_n 3, 1) := by decide +kernel
theorem dX1_rotateValues_12 : decode cX1_rotateValues 12 = .ok (.sipush 1024, 3) := by decide +kernel
theorem dX1_rotateValues_15 : decode cX1_rotateValues 15 = .ok (.if_icmp .le 4, 3) := by decide +kernel
theorem dX1_rotateValues_18 : decode cX1_rotateValues 18 = .ok (.return_, 1) := by decide +kernel
theorem dX1_rotateValues_19 : decode cX1_rotateValues 19 = .ok (.aload_n 0, 1) := by decide +kernel
theorem dX1_rotateValues_20 : decode cX1_rotateValues 20 = .ok (.iload_n 1, 1) := by decide +kernel
theorem dX1_rotateValues_21 : decode cX1_rotateValues 21 = .ok (.iload_n 3, 1) := by decide +kernel
theorem dX1_rotateValues_22 : decode cX1_rotateValues 22 = .ok (.invokevirtual 72, 3) := by decide +kernel
theorem dX1_rotateValues_25 : decode cX1_rotateValues 25 = .ok (.iconst 0, 1) := by decide +kernel
theorem dX1_rotateValues_26 : decode cX1_rotateValues 26 = .ok (.istore 4, 2) := by decide +kernel
theorem dX1_rotateValues_28 : decode cX1_rotateValues 28 = .ok (.iload 4, 2) := by decide +kernel
theorem dX1_rotateValues_30 : decode cX1_rotateValues 30 = .ok (.iload_n 3, 1) := by decide +kernel
theorem dX1_rotateValues_31 : decode cX1_rotateValues 31 = .ok (.if_icmp .ge 23, 3) := by decide +kernel
theorem dX1_rotateValues_34 : decode cX1_rotateValues 34 = .ok (.aload_n 0, 1) := by decide +kernel
theorem dX1_rotateValues_35 : decode cX1_rotateValues 35 = .ok (.iload_n 1, 1) := by decide +kernel
theorem dX1_rotateValues_36 : decode cX1_rotateValues 36 = .ok (.iload 4, 2) := by decide +kernel
theorem dX1_rotateValues_38 : decode cX1_rotateValues 38 = .ok (.iadd, 1) := by decide +kernel
theorem dX1_rotateValues_39 : decode cX1_rotateValues 39 = .ok (.iload 4, 2) := by decide +kernel
theorem dX1_rotateValues_41 : decode cX1_rotateValues 41 = .ok (.iload_n 2, 1) := by decide +kernel
theorem dX1_rotateValues_42 : decode cX1_rotateValues 42 = .ok (.iadd, 1) := by decide +kernel
theorem dX1_rotateValues_43 : decode cX1_rotateValues 43 = .ok (.iload_n 3, 1) := by decide +kernel
theorem dX1_rotateValues_44 : decode cX1_rotateValues 44 = .ok (.irem, 1) := by decide +kernel
theorem dX1_rotateValues_45 : decode cX1_rotateValues 45 = .ok (.invokevirtual 75, 3) := by decide +kernel
theorem dX1_rotateValues_48 : decode cX1_rotateValues 48 = .ok (.iinc 4 1, 3) := by decide +kernel
theorem dX1_rotateValues_51 : decode cX1_rotateValues 51 = .ok (.goto (-23), 3) := by decide +kernel
theorem dX1_rotateValues_54 : decode cX1_rotateValues 54 = .ok (.return_, 1) := by decide +kernel
theorem dX1_mergePass_0 : decode cX1_mergePass 0 = .ok (.iconst 0, 1) := by decide +kernel
theorem dX1_mergePass_1 : decode cX1_mergePass 1 = .ok (.istore_n 2, 1) := by decide +kernel
theorem dX1_mergePass_2 : decode cX1_mergePass 2 = .ok (.iconst 0, 1) := by decide +kernel
theorem dX1_mergePass_3 : decode cX1_mergePass 3 = .ok (.istore_n 3, 1) := by decide +kernel
theorem dX1_mergePass_4 : decode cX1_mergePass 4 = .ok (.iload_n 3, 1) := by decide +kernel
theorem dX1_mergePass_5 : decode cX1_mergePass 5 = .ok (.iload_n 1, 1) := by decide +kernel
theorem dX1_mergePass_6 : decode cX1_mergePass 6 = .ok (.if_icmp .ge 55, 3) := by decide +kernel
theorem dX1_mergePass_9 : decode cX1_mergePass 9 = .ok (.iload_n 2, 1) := by decide +kernel
theorem dX1_mergePass_10 : decode cX1_mergePass 10 = .ok (.iload_n 1, 1) := by decide +kernel
theorem dX1_mergePass_11 : decode cX1_mergePass 11 = .ok (.if_icmp .ge 50, 3) := by decide +kernel
theorem dX1_mergePass_14 : decode cX1_mergePass 14 = .ok (.aload_n 0, 1) := by decide +kernel
theorem dX1_mergePass_15 : decode cX1_mergePass 15 = .ok (.iload_n 2, 1) := by decide +kernel
theorem dX1_mergePass_16 : decode cX1_mergePass 16 = .ok (.iload_n 1, 1) := by decide +kernel
theorem dX1_mergePass_17 : decode cX1_mergePass 17 = .ok (.invokevirtual 78, 3) := by decide +kernel
theorem dX1_mergePass_20 : decode cX1_mergePass 20 = .ok (.istore 4, 2) := by decide +kernel
theorem dX1_mergePass_22 : decode cX1_mergePass 22 = .ok (.iload_n 2, 1) := by decide +kernel
theorem dX1_mergePass_23 : decode cX1_mergePass 23 = .ok (.ifCond .ne 11, 3) := by decide +kernel
theorem dX1_mergePass_26 : decode cX1_mergePass 26 = .ok (.iload 4, 2) := by decide +kernel
theorem dX1_mergePass_28 : decode cX1_mergePass 28 = .ok (.iload_n 1, 1) := by decide +kernel
theorem dX1_mergePass_29 : decode cX1_mergePass 29 = .ok (.if_icmp .ne 5, 3) := by decide +kernel
theorem dX1_mergePass_32 : decode cX1_mergePass 32 = .ok (.iconst 1, 1) := by decide +kernel
theorem dX1_mergePass_33 : decode cX1_mergePass 33 = .ok (.ireturn, 1) := by decide +kernel
theorem dX1_mergePass_34 : decode cX1_mergePass 34 = .ok (.aload_n 0, 1) := by decide +kernel
theorem dX1_mergePass_35 : decode cX1_mergePass 35 = .ok (.iload 4, 2) := by decide +kernel
theorem dX1_mergePass_37 : decode cX1_mergePass 37 = .ok (.iload_n 1, 1) := by decide +kernel
theorem dX1_mergePass_38 : decode cX1_mergePass 38 = .ok (.invokevirtual 78, 3) := by decide +kernel
theorem dX1_mergePass_41 : decode cX1_mergePass 41 = .ok (.istore 5, 2) := by decide +kernel
theorem dX1_mergePass_43 : decode cX1_mergePass 43 = .ok (.aload_n 0, 1) := by decide +kernel
theorem dX1_mergePass_44 : decode cX1_mergePass 44 = .ok (.iload_n 2, 1) := by decide +kernel
theorem dX1_mergePass_45 : decode cX1_mergePass 45 = .ok (.iload 4, 2) := by decide +kernel
theorem dX1_mergePass_47 : decode cX1_mergePass 47 = .ok (.iload 5, 2) := by decide +kernel
theorem dX1_mergePass_49 : decode cX1_mergePass 49 = .ok (.invokevirtual 82, 3) := by decide +kernel
theorem dX1_mergePass_52 : decode cX1_mergePass 52 = .ok (.iload 5, 2) := by decide +kernel
theorem dX1_mergePass_54 : decode cX1_mergePass 54 = .ok (.istore_n 2, 1) := by decide +kernel
theorem dX1_mergePass_55 : decode cX1_mergePass 55 = .ok (.iinc 3 1, 3) := by decide +kernel
theorem dX1_mergePass_58 : decode cX1_mergePass 58 = .ok (.goto (-54), 3) := by decide +kernel
theorem dX1_mergePass_61 : decode cX1_mergePass 61 = .ok (.aload_n 0, 1) := by decide +kernel
theorem dX1_mergePass_62 : decode cX1_mergePass 62 = .ok (.getfield 52, 3) := by decide +kernel
theorem dX1_mergePass_65 : decode cX1_mergePass 65 = .ok (.astore_n 3, 1) := by decide +kernel
theorem dX1_mergePass_66 : decode cX1_mergePass 66 = .ok (.aload_n 0, 1) := by decide +kernel
theorem dX1_mergePass_67 : decode cX1_mergePass 67 = .ok (.aload_n 0, 1) := by decide +kernel
theorem dX1_mergePass_68 : decode cX1_mergePass 68 = .ok (.getfield 49, 3) := by decide +kernel
theorem dX1_mergePass_71 : decode cX1_mergePass 71 = .ok (.putfield 52, 3) := by decide +kernel
theorem dX1_mergePass_74 : decode cX1_mergePass 74 = .ok (.aload_n 0, 1) := by decide +kernel
theorem dX1_mergePass_75 : decode cX1_mergePass 75 = .ok (.aload_n 3, 1) := by decide +kernel
theorem dX1_mergePass_76 : decode cX1_mergePass 76 = .ok (.putfield 49, 3) := by decide +kernel
theorem dX1_mergePass_79 : decode cX1_mergePass 79 = .ok (.iconst 0, 1) := by decide +kernel
theorem dX1_mergePass_80 : decode cX1_mergePass 80 = .ok (.ireturn, 1) := by decide +kernel
theorem dX1_runEnd_0 : decode cX1_runEnd 0 = .ok (.iload_n 1, 1) := by decide +kernel
theorem dX1_runEnd_1 : decode cX1_runEnd 1 = .ok (.iconst 1, 1) := by decide +kernel
theorem dX1_runEnd_2 : decode cX1_runEnd 2 = .ok (.iadd, 1) := by decide +kernel
theorem dX1_runEnd_3 : decode cX1_runEnd 3 = .ok (.istore_n 3, 1) := by decide +kernel
theorem dX1_runEnd_4 : decode cX1_runEnd 4 = .ok (.iload_n 3, 1) := by decide +kernel
theorem dX1_runEnd_5 : decode cX1_runEnd 5 = .ok (.iload_n 2, 1) := by decide +kernel
theorem dX1_runEnd_6 : decode cX1_runEnd 6 = .ok (.if_icmp .ge 27, 3) := by decide +kernel
theorem dX1_runEnd_9 : decode cX1_runEnd 9 = .ok (.aload_n 0, 1) := by decide +kernel
theorem dX1_runEnd_10 : decode cX1_runEnd 10 = .ok (.getfield 49, 3) := by decide +kernel
theorem dX1_runEnd_13 : decode cX1_runEnd 13 = .ok (.iload_n 3, 1) := by decide +kernel
theorem dX1_runEnd_14 : decode cX1_runEnd 14 = .ok (.iconst 1, 1) := by decide +kernel
theorem dX1_runEnd_15 : decode cX1_runEnd 15 = .ok (.isub, 1) := by decide +kernel
theorem dX1_runEnd_16 : decode cX1_runEnd 16 = .ok (.laload, 1) := by decide +kernel
theorem dX1_runEnd_17 : decode cX1_runEnd 17 = .ok (.aload_n 0, 1) := by decide +kernel
theorem dX1_runEnd_18 : decode cX1_runEnd 18 = .ok (.getfield 49, 3) := by decide +kernel
theorem dX1_runEnd_21 : decode cX1_runEnd 21 = .ok (.iload_n 3, 1) := by decide +kernel
theorem dX1_runEnd_22 : decode cX1_runEnd 22 = .ok (.laload, 1) := by decide +kernel
theorem dX1_runEnd_23 : decode cX1_runEnd 23 = .ok (.lcmp, 1) := by decide +kernel
theorem dX1_runEnd_24 : decode cX1_runEnd 24 = .ok (.ifCond .ge 9, 3) := by decide +kernel
theorem dX1_runEnd_27 : decode cX1_runEnd 27 = .ok (.iinc 3 1, 3) := by decide +kernel
theorem dX1_runEnd_30 : decode cX1_runEnd 30 = .ok (.goto (-26), 3) := by decide +kernel
theorem dX1_runEnd_33 : decode cX1_runEnd 33 = .ok (.iload_n 3, 1) := by decide +kernel
theorem dX1_runEnd_34 : decode cX1_runEnd 34 = .ok (.iload_n 2, 1) := by decide +kernel
theorem dX1_runEnd_35 : decode cX1_runEnd 35 = .ok (.invokestatic 86, 3) := by decide +kernel
theorem dX1_runEnd_38 : decode cX1_runEnd 38 = .ok (.ireturn, 1) := by decide +kernel
theorem dX1_mergeRuns_0 : decode cX1_mergeRuns 0 = .ok (.iload_n 1, 1) := by decide +kernel
theorem dX1_mergeRuns_1 : decode cX1_mergeRuns 1 = .ok (.istore 4, 2) := by decide +kernel
theorem dX1_mergeRuns_3 : decode cX1_mergeRuns 3 = .ok (.iload_n 2, 1) := by decide +kernel
theorem dX1_mergeRuns_4 : decode cX1_mergeRuns 4 = .ok (.istore 5, 2) := by decide +kernel
theorem dX1_mergeRuns_6 : decode cX1_mergeRuns 6 = .ok (.iload_n 1, 1) := by decide +kernel
theorem dX1_mergeRuns_7 : decode cX1_mergeRuns 7 = .ok (.istore 6, 2) := by decide +kernel
theorem dX1_mergeRuns_9 : decode cX1_mergeRuns 9 = .ok (.iload 6, 2) := by decide +kernel
theorem dX1_mergeRuns_11 : decode cX1_mergeRuns 11 = .ok (.iload_n 3, 1) := by decide +kernel
theorem dX1_mergeRuns_12 : decode cX1_mergeRuns 12 = .ok (.if_icmp .ge 76, 3) := by decide +kernel
theorem dX1_mergeRuns_15 : decode cX1_mergeRuns 15 = .ok (.iload 5, 2) := by decide +kernel
theorem dX1_mergeRuns_17 : decode cX1_mergeRuns 17 = .ok (.iload_n 3, 1) := by decide +kernel
theorem dX1_mergeRuns_18 : decode cX1_mergeRuns 18 = .ok (.if_icmp .ge 27, 3) := by decide +kernel
theorem dX1_mergeRuns_21 : decode cX1_mergeRuns 21 = .ok (.iload 4, 2) := by decide +kernel
theorem dX1_mergeRuns_23 : decode cX1_mergeRuns 23 = .ok (.iload_n 2, 1) := by decide +kernel
theorem dX1_mergeRuns_24 : decode cX1_mergeRuns 24 = .ok (.if_icmp .ge 41, 3) := by decide +kernel
theorem dX1_mergeRuns_27 : decode cX1_mergeRuns 27 = .ok (.aload_n 0, 1) := by decide +kernel
theorem dX1_mergeRuns_28 : decode cX1_mergeRuns 28 = .ok (.getfield 49, 3) := by decide +kernel
theorem dX1_mergeRuns_31 : decode cX1_mergeRuns 31 = .ok (.iload 4, 2) := by decide +kernel
theorem dX1_mergeRuns_33 : decode cX1_mergeRuns 33 = .ok (.laload, 1) := by decide +kernel
theorem dX1_mergeRuns_34 : decode cX1_mergeRuns 34 = .ok (.aload_n 0, 1) := by decide +kernel
theorem dX1_mergeRuns_35 : decode cX1_mergeRuns 35 = .ok (.getfield 49, 3) := by decide +kernel
theorem dX1_mergeRuns_38 : decode cX1_mergeRuns 38 = .ok (.iload 5, 2) := by decide +kernel
theorem dX1_mergeRuns_40 : decode cX1_mergeRuns 40 = .ok (.laload, 1) := by decide +kernel
theorem dX1_mergeRuns_41 : decode cX1_mergeRuns 41 = .ok (.lcmp, 1) := by decide +kernel
theorem dX1_mergeRuns_42 : decode cX1_mergeRuns 42 = .ok (.ifCond .ge 23, 3) := by decide +kernel
theorem dX1_mergeRuns_45 : decode cX1_mergeRuns 45 = .ok (.aload_n 0, 1) := by decide +kernel
theorem dX1_mergeRuns_46 : decode cX1_mergeRuns 46 = .ok (.getfield 52, 3) := by decide +kernel
theorem dX1_mergeRuns_49 : decode cX1_mergeRuns 49 = .ok (.iload 6, 2) := by decide +kernel
theorem dX1_mergeRuns_51 : decode cX1_mergeRuns 51 = .ok (.aload_n 0, 1) := by decide +kernel
theorem dX1_mergeRuns_52 : decode cX1_mergeRuns 52 = .ok (.getfield 49, 3) := by decide +kernel
theorem dX1_mergeRuns_55 : decode cX1_mergeRuns 55 = .ok (.iload 4, 2) := by decide +kernel
theorem dX1_mergeRuns_57 : decode cX1_mergeRuns 57 = .ok (.laload, 1) := by decide +kernel
theorem dX1_mergeRuns_58 : decode cX1_mergeRuns 58 = .ok (.lastore, 1) := by decide +kernel
theorem dX1_mergeRuns_59 : decode cX1_mergeRuns 59 = .ok (.iinc 4 1, 3) := by decide +kernel
theorem dX1_mergeRuns_62 : decode cX1_mergeRuns 62 = .ok (.goto 20, 3) := by decide +kernel
theorem dX1_mergeRuns_65 : decode cX1_mergeRuns 65 = .ok (.aload_n 0, 1) := by decide +kernel
theorem dX1_mergeRuns_66 : decode cX1_mergeRuns 66 = .ok (.getfield 52, 3) := by decide +kernel
theorem dX1_mergeRuns_69 : decode cX1_mergeRuns 69 = .ok (.iload 6, 2) := by decide +kernel
theorem dX1_mergeRuns_71 : decode cX1_mergeRuns 71 = .ok (.aload_n 0, 1) := by decide +kernel
theorem dX1_mergeRuns_72 : decode cX1_mergeRuns 72 = .ok (.getfield 49, 3) := by decide +kernel
theorem dX1_mergeRuns_75 : decode cX1_mergeRuns 75 = .ok (.iload 5, 2) := by decide +kernel
theorem dX1_mergeRuns_77 : decode cX1_mergeRuns 77 = .ok (.laload, 1) := by decide +kernel
theorem dX1_mergeRuns_78 : decode cX1_mergeRuns 78 = .ok (.lastore, 1) := by decide +kernel
theorem dX1_mergeRuns_79 : decode cX1_mergeRuns 79 = .ok (.iinc 5 1, 3) := by decide +kernel
theorem dX1_mergeRuns_82 : decode cX1_mergeRuns 82 = .ok (.iinc 6 1, 3) := by decide +kernel
theorem dX1_mergeRuns_85 : decode cX1_mergeRuns 85 = .ok (.goto (-76), 3) := by decide +kernel
theorem dX1_mergeRuns_88 : decode cX1_mergeRuns 88 = .ok (.return_, 1) := by decide +kernel
theorem dX2_merge_0 : decode cX2_merge 0 = .ok (.aload_n 0, 1) := by decide +kernel
theorem dX2_merge_1 : decode cX2_merge 1 = .ok (.getfield 38, 3) := by decide +kernel
theorem dX2_merge_4 : decode cX2_merge 4 = .ok (.iconst 1, 1) := by decide +kernel
theorem dX2_merge_5 : decode cX2_merge 5 = .ok (.isub, 1) := by decide +kernel
theorem dX2_merge_6 : decode cX2_merge 6 = .ok (.istore 7, 2) := by decide +kernel
theorem dX2_merge_8 : decode cX2_merge 8 = .ok (.aload_n 1, 1) := by decide +kernel
theorem dX2_merge_9 : decode cX2_merge 9 = .ok (.getfield 42, 3) := by decide +kernel
theorem dX2_merge_12 : decode cX2_merge 12 = .ok (.iconst 1, 1) := by decide +kernel
theorem dX2_merge_13 : decode cX2_merge 13 = .ok (.isub, 1) := by decide +kernel
theorem dX2_merge_14 : decode cX2_merge 14 = .ok (.istore 8, 2) := by decide +kernel
theorem dX2_merge_16 : decode cX2_merge 16 = .ok (.aload_n 0, 1) := by decide +kernel
theorem dX2_merge_17 : decode cX2_merge 17 = .ok (.getfield 38, 3) := by decide +kernel
theorem dX2_merge_20 : decode cX2_merge 20 = .ok (.aload_n 1, 1) := by decide +kernel
theorem dX2_merge_21 : decode cX2_merge 21 = .ok (.getfield 42, 3) := by decide +kernel
theorem dX2_merge_24 : decode cX2_merge 24 = .ok (.iadd, 1) := by decide +kernel
theorem dX2_merge_25 : decode cX2_merge 25 = .ok (.iconst 1, 1) := by decide +kernel
theorem dX2_merge_26 : decode cX2_merge 26 = .ok (.isub, 1) := by decide +kernel
theorem dX2_merge_27 : decode cX2_merge 27 = .ok (.istore 9, 2) := by decide +kernel
theorem dX2_merge_29 : decode cX2_merge 29 = .ok (.iload 9, 2) := by decide +kernel
theorem dX2_merge_31 : decode cX2_merge 31 = .ok (.iload 6, 2) := by decide +kernel
theorem dX2_merge_33 : decode cX2_merge 33 = .ok (.if_icmp .lt 109, 3) := by decide +kernel
theorem dX2_merge_36 : decode cX2_merge 36 = .ok (.iload 8, 2) := by decide +kernel
theorem dX2_merge_38 : decode cX2_merge 38 = .ok (.ifCond .lt 104, 3) := by decide +kernel
theorem dX2_merge_41 : decode cX2_merge 41 = .ok (.iload 7, 2) := by decide +kernel
theorem dX2_merge_43 : decode cX2_merge 43 = .ok (.iload 6, 2) := by decide +kernel
theorem dX2_merge_45 : decode cX2_merge 45 = .ok (.if_icmp .lt 45, 3) := by decide +kernel
theorem dX2_merge_48 : decode cX2_merge 48 = .ok (.aload_n 0, 1) := by decide +kernel
theorem dX2_merge_49 : decode cX2_merge 49 = .ok (.getfield 18, 3) := by decide +kernel
theorem dX2_merge_52 : decode cX2_merge 52 = .ok (.iload 7, 2) := by decide +kernel
theorem dX2_merge_54 : decode cX2_merge 54 = .ok (.laload, 1) := by decide +kernel
theorem dX2_merge_55 : decode cX2_merge 55 = .ok (.lload_n 2, 1) := by decide +kernel
theorem dX2_merge_56 : decode cX2_merge 56 = .ok (.lmul, 1) := by decide +kernel
theorem dX2_merge_57 : decode cX2_merge 57 = .ok (.aload_n 1, 1) := by decide +kernel
theorem dX2_merge_58 : decode cX2_merge 58 = .ok (.getfield 47, 3) := by decide +kernel
theorem dX2_merge_61 : decode cX2_merge 61 = .ok (.iload 8, 2) := by decide +kernel
theorem dX2_merge_63 : decode cX2_merge 63 = .ok (.laload, 1) := by decide +kernel
theorem dX2_merge_64 : decode cX2_merge 64 = .ok (.aload_n 0, 1) := by decide +kernel
theorem dX2_merge_65 : decode cX2_merge 65 = .ok (.getfield 25, 3) := by decide +kernel
theorem dX2_merge_68 : decode cX2_merge 68 = .ok (.iload 7, 2) := by decide +kernel
theorem dX2_merge_70 : decode cX2_merge 70 = .ok (.laload, 1) := by decide +kernel
theorem dX2_merge_71 : decode cX2_merge 71 = .ok (.lmul, 1) := by decide +kernel
theorem dX2_merge_72 : decode cX2_merge 72 = .ok (.lcmp, 1) := by decide +kernel
theorem dX2_merge_73 : decode cX2_merge 73 = .ok (.ifCond .le 17, 3) := by decide +kernel
theorem dX2_merge_76 : decode cX2_merge 76 = .ok (.aload_n 0, 1) := by decide +kernel
theorem dX2_merge_77 : decode cX2_merge 77 = .ok (.iload 7, 2) := by decide +kernel
theorem dX2_merge_79 : decode cX2_merge 79 = .ok (.iload 9, 2) := by decide +kernel
theorem dX2_merge_81 : decode cX2_merge 81 = .ok (.invokevirtual 48, 3) := by decide +kernel
theorem dX2_merge_84 : decode cX2_merge 84 = .ok (.iinc 7 (-1), 3) := by decide +kernel
theorem dX2_merge_87 : decode cX2_merge 87 = .ok (.goto 49, 3) := by decide +kernel
theorem dX2_merge_90 : decode cX2_merge 90 = .ok (.aload_n 0, 1) := by decide +kernel
theorem dX2_merge_91 : decode cX2_merge 91 = .ok (.aload_n 1, 1) := by decide +kernel
theorem dX2_merge_92 : decode cX2_merge 92 = .ok (.iload 8, 2) := by decide +kernel
theorem dX2_merge_94 : decode cX2_merge 94 = .ok (.iload 9, 2) := by decide +kernel
theorem dX2_merge_96 : decode cX2_merge 96 = .ok (.invokevirtual 52, 3) := by decide +kernel
theorem dX2_merge_99 : decode cX2_merge 99 = .ok (.iload 9, 2) := by decide +kernel
theorem dX2_merge_101 : decode cX2_merge 101 = .ok (.sipush 400, 3) := by decide +kernel
theorem dX2_merge_104 : decode cX2_merge 104 = .ok (.if_icmp .ge 29, 3) := by decide +kernel
theorem dX2_merge_107 : decode cX2_merge 107 = .ok (.aload_n 0, 1) := by decide +kernel
theorem dX2_merge_108 : decode cX2_merge 108 = .ok (.getfield 25, 3) := by decide +kernel
theorem dX2_merge_111 : decode cX2_merge 111 = .ok (.iload 9, 2) := by decide +kernel
theorem dX2_merge_113 : decode cX2_merge 113 = .ok (.lload_n 2, 1) := by decide +kernel
theorem dX2_merge_114 : decode cX2_merge 114 = .ok (.lastore, 1) := by decide +kernel
theorem dX2_merge_115 : decode cX2_merge 115 = .ok (.aload_n 0, 1) := by decide +kernel
theorem dX2_merge_116 : decode cX2_merge 116 = .ok (.getfield 11, 3) := by decide +kernel
theorem dX2_merge_119 : decode cX2_merge 119 = .ok (.iload 9, 2) := by decide +kernel
theorem dX2_merge_121 : decode cX2_merge 121 = .ok (.iload 4, 2) := by decide +kernel
theorem dX2_merge_123 : decode cX2_merge 123 = .ok (.iastore, 1) := by decide +kernel
theorem dX2_merge_124 : decode cX2_merge 124 = .ok (.aload_n 0, 1) := by decide +kernel
theorem dX2_merge_125 : decode cX2_merge 125 = .ok (.getfield 15, 3) := by decide +kernel
theorem dX2_merge_128 : decode cX2_merge 128 = .ok (.iload 9, 2) := by decide +kernel
theorem dX2_merge_130 : decode cX2_merge 130 = .ok (.iload 5, 2) := by decide +kernel
theorem dX2_merge_132 : decode cX2_merge 132 = .ok (.iastore, 1) := by decide +kernel
theorem dX2_merge_133 : decode cX2_merge 133 = .ok (.iinc 8 (-1), 3) := by decide +kernel
theorem dX2_merge_136 : decode cX2_merge 136 = .ok (.iinc 9 (-1), 3) := by decide +kernel
theorem dX2_merge_139 : decode cX2_merge 139 = .ok (.goto (-110), 3) := by decide +kernel
theorem dX2_merge_142 : decode cX2_merge 142 = .ok (.aload_n 0, 1) := by decide +kernel
theorem dX2_merge_143 : decode cX2_merge 143 = .ok (.sipush 400, 3) := by decide +kernel
theorem dX2_merge_146 : decode cX2_merge 146 = .ok (.aload_n 0, 1) := by decide +kernel
theorem dX2_merge_147 : decode cX2_merge 147 = .ok (.getfield 38, 3) := by decide +kernel
theorem dX2_merge_150 : decode cX2_merge 150 = .ok (.aload_n 1, 1) := by decide +kernel
theorem dX2_merge_151 : decode cX2_merge 151 = .ok (.getfield 42, 3) := by decide +kernel
theorem dX2_merge_154 : decode cX2_merge 154 = .ok (.iadd, 1) := by decide +kernel
theorem dX2_merge_155 : decode cX2_merge 155 = .ok (.invokestatic 56, 3) := by decide +kernel
theorem dX2_merge_158 : decode cX2_merge 158 = .ok (.putfield 38, 3) := by decide +kernel
theorem dX2_merge_161 : decode cX2_merge 161 = .ok (.return_, 1) := by decide +kernel
theorem dX2_move_0 : decode cX2_move 0 = .ok (.iload_n 2, 1) := by decide +kernel
theorem dX2_move_1 : decode cX2_move 1 = .ok (.sipush 400, 3) := by decide +kernel
theorem dX2_move_4 : decode cX2_move 4 = .ok (.if_icmp .lt 4, 3) := by decide +kernel
theorem dX2_move_7 : decode cX2_move 7 = .ok (.return_, 1) := by decide +kernel
theorem dX2_move_8 : decode cX2_move 8 = .ok (.aload_n 0, 1) := by decide +kernel
theorem dX2_move_9 : decode cX2_move 9 = .ok (.getfield 11, 3) := by decide +kernel
theorem dX2_move_12 : decode cX2_move 12 = .ok (.iload_n 2, 1) := by decide +kernel
theorem dX2_move_13 : decode cX2_move 13 = .ok (.aload_n 0, 1) := by decide +kernel
theorem dX2_move_14 : decode cX2_move 14 = .ok (.getfield 11, 3) := by decide +kernel
theorem dX2_move_17 : decode cX2_move 17 = .ok (.iload_n 1, 1) := by decide +kernel
theorem dX2_move_18 : decode cX2_move 18 = .ok (.iaload, 1) := by decide +kernel
theorem dX2_move_19 : decode cX2_move 19 = .ok (.iastore, 1) := by decide +kernel
theorem dX2_move_20 : decode cX2_move 20 = .ok (.aload_n 0, 1) := by decide +kernel
theorem dX2_move_21 : decode cX2_move 21 = .ok (.getfield 15, 3) := by decide +kernel
theorem dX2_move_24 : decode cX2_move 24 = .ok (.iload_n 2, 1) := by decide +kernel
theorem dX2_move_25 : decode cX2_move 25 = .ok (.aload_n 0, 1) := by decide +kernel
theorem dX2_move_26 : decode cX2_move 26 = .ok (.getfield 15, 3) := by decide +kernel
theorem dX2_move_29 : decode cX2_move 29 = .ok (.iload_n 1, 1) := by decide +kernel
theorem dX2_move_30 : decode cX2_move 30 = .ok (.iaload, 1) := by decide +kernel
theorem dX2_move_31 : decode cX2_move 31 = .ok (.iastore, 1) := by decide +kernel
theorem dX2_move_32 : decode cX2_move 32 = .ok (.aload_n 0, 1) := by decide +kernel
theorem dX2_move_33 : decode cX2_move 33 = .ok (.getfield 18, 3) := by decide +kernel
theorem dX2_move_36 : decode cX2_move 36 = .ok (.iload_n 2, 1) := by decide +kernel
theorem dX2_move_37 : decode cX2_move 37 = .ok (.aload_n 0, 1) := by decide +kernel
theorem dX2_move_38 : decode cX2_move 38 = .ok (.getfield 18, 3) := by decide +kernel
theorem dX2_move_41 : decode cX2_move 41 = .ok (.iload_n 1, 1) := by decide +kernel
theorem dX2_move_42 : decode cX2_move 42 = .ok (.laload, 1) := by decide +kernel
theorem dX2_move_43 : decode cX2_move 43 = .ok (.lastore, 1) := by decide +kernel
theorem dX2_move_44 : decode cX2_move 44 = .ok (.aload_n 0, 1) := by decide +kernel
theorem dX2_move_45 : decode cX2_move 45 = .ok (.getfield 22, 3) := by decide +kernel
theorem dX2_move_48 : decode cX2_move 48 = .ok (.iload_n 2, 1) := by decide +kernel
theorem dX2_move_49 : decode cX2_move 49 = .ok (.aload_n 0, 1) := by decide +kernel
theorem dX2_move_50 : decode cX2_move 50 = .ok (.getfield 22, 3) := by decide +kernel
theorem dX2_move_53 : decode cX2_move 53 = .ok (.iload_n 1, 1) := by decide +kernel
theorem dX2_move_54 : decode cX2_move 54 = .ok (.laload, 1) := by decide +kernel
theorem dX2_move_55 : decode cX2_move 55 = .ok (.lastore, 1) := by decide +kernel
theorem dX2_move_56 : decode cX2_move 56 = .ok (.aload_n 0, 1) := by decide +kernel
theorem dX2_move_57 : decode cX2_move 57 = .ok (.getfield 25, 3) := by decide +kernel
theorem dX2_move_60 : decode cX2_move 60 = .ok (.iload_n 2, 1) := by decide +kernel
theorem dX2_move_61 : decode cX2_move 61 = .ok (.aload_n 0, 1) := by decide +kernel
theorem dX2_move_62 : decode cX2_move 62 = .ok (.getfield 25, 3) := by decide +kernel
theorem dX2_move_65 : decode cX2_move 65 = .ok (.iload_n 1, 1) := by decide +kernel
theorem dX2_move_66 : decode cX2_move 66 = .ok (.laload, 1) := by decide +kernel
theorem dX2_move_67 : decode cX2_move 67 = .ok (.lastore, 1) := by decide +kernel
theorem dX2_move_68 : decode cX2_move 68 = .ok (.aload_n 0, 1) := by decide +kernel
theorem dX2_move_69 : decode cX2_move 69 = .ok (.getfield 28, 3) := by decide +kernel
theorem dX2_move_72 : decode cX2_move 72 = .ok (.iload_n 2, 1) := by decide +kernel
theorem dX2_move_73 : decode cX2_move 73 = .ok (.aload_n 0, 1) := by decide +kernel
theorem dX2_move_74 : decode cX2_move 74 = .ok (.getfield 28, 3) := by decide +kernel
theorem dX2_move_77 : decode cX2_move 77 = .ok (.iload_n 1, 1) := by decide +kernel
theorem dX2_move_78 : decode cX2_move 78 = .ok (.laload, 1) := by decide +kernel
theorem dX2_move_79 : decode cX2_move 79 = .ok (.lastore, 1) := by decide +kernel
theorem dX2_move_80 : decode cX2_move 80 = .ok (.aload_n 0, 1) := by decide +kernel
theorem dX2_move_81 : decode cX2_move 81 = .ok (.getfield 31, 3) := by decide +kernel
theorem dX2_move_84 : decode cX2_move 84 = .ok (.iload_n 2, 1) := by decide +kernel
theorem dX2_move_85 : decode cX2_move 85 = .ok (.aload_n 0, 1) := by decide +kernel
theorem dX2_move_86 : decode cX2_move 86 = .ok (.getfield 31, 3) := by decide +kernel
theorem dX2_move_89 : decode cX2_move 89 = .ok (.iload_n 1, 1) := by decide +kernel
theorem dX2_move_90 : decode cX2_move 90 = .ok (.iaload, 1) := by decide +kernel
theorem dX2_move_91 : decode cX2_move 91 = .ok (.iastore, 1) := by decide +kernel
theorem dX2_move_92 : decode cX2_move 92 = .ok (.aload_n 0, 1) := by decide +kernel
theorem dX2_move_93 : decode cX2_move 93 = .ok (.getfield 34, 3) := by decide +kernel
theorem dX2_move_96 : decode cX2_move 96 = .ok (.iload_n 2, 1) := by decide +kernel
theorem dX2_move_97 : decode cX2_move 97 = .ok (.aload_n 0, 1) := by decide +kernel
theorem dX2_move_98 : decode cX2_move 98 = .ok (.getfield 34, 3) := by decide +kernel
theorem dX2_move_101 : decode cX2_move 101 = .ok (.iload_n 1, 1) := by decide +kernel
theorem dX2_move_102 : decode cX2_move 102 = .ok (.baload, 1) := by decide +kernel
theorem dX2_move_103 : decode cX2_move 103 = .ok (.bastore, 1) := by decide +kernel
theorem dX2_move_104 : decode cX2_move 104 = .ok (.return_, 1) := by decide +kernel
theorem dX2_take_0 : decode cX2_take 0 = .ok (.iload_n 3, 1) := by decide +kernel
theorem dX2_take_1 : decode cX2_take 1 = .ok (.sipush 400, 3) := by decide +kernel
theorem dX2_take_4 : decode cX2_take 4 = .ok (.if_icmp .lt 4, 3) := by decide +kernel
theorem dX2_take_7 : decode cX2_take 7 = .ok (.return_, 1) := by decide +kernel
theorem dX2_take_8 : decode cX2_take 8 = .ok (.aload_n 0, 1) := by decide +kernel
theorem dX2_take_9 : decode cX2_take 9 = .ok (.getfield 18, 3) := by decide +kernel
theorem dX2_take_12 : decode cX2_take 12 = .ok (.iload_n 3, 1) := by decide +kernel
theorem dX2_take_13 : decode cX2_take 13 = .ok (.aload_n 1, 1) := by decide +kernel
theorem dX2_take_14 : decode cX2_take 14 = .ok (.getfield 47, 3) := by decide +kernel
theorem dX2_take_17 : decode cX2_take 17 = .ok (.iload_n 2, 1) := by decide +kernel
theorem dX2_take_18 : decode cX2_take 18 = .ok (.laload, 1) := by decide +kernel
theorem dX2_take_19 : decode cX2_take 19 = .ok (.lastore, 1) := by decide +kernel
theorem dX2_take_20 : decode cX2_take 20 = .ok (.aload_n 0, 1) := by decide +kernel
theorem dX2_take_21 : decode cX2_take 21 = .ok (.getfield 22, 3) := by decide +kernel
theorem dX2_take_24 : decode cX2_take 24 = .ok (.iload_n 3, 1) := by decide +kernel
theorem dX2_take_25 : decode cX2_take 25 = .ok (.aload_n 1, 1) := by decide +kernel
theorem dX2_take_26 : decode cX2_take 26 = .ok (.getfield 62, 3) := by decide +kernel
theorem dX2_take_29 : decode cX2_take 29 = .ok (.iload_n 2, 1) := by decide +kernel
theorem dX2_take_30 : decode cX2_take 30 = .ok (.laload, 1) := by decide +kernel
theorem dX2_take_31 : decode cX2_take 31 = .ok (.lastore, 1) := by decide +kernel
theorem dX2_take_32 : decode cX2_take 32 = .ok (.aload_n 0, 1) := by decide +kernel
theorem dX2_take_33 : decode cX2_take 33 = .ok (.getfield 28, 3) := by decide +kernel
theorem dX2_take_36 : decode cX2_take 36 = .ok (.iload_n 3, 1) := by decide +kernel
theorem dX2_take_37 : decode cX2_take 37 = .ok (.aload_n 1, 1) := by decide +kernel
theorem dX2_take_38 : decode cX2_take 38 = .ok (.getfield 63, 3) := by decide +kernel
theorem dX2_take_41 : decode cX2_take 41 = .ok (.iload_n 2, 1) := by decide +kernel
theorem dX2_take_42 : decode cX2_take 42 = .ok (.laload, 1) := by decide +kernel
theorem dX2_take_43 : decode cX2_take 43 = .ok (.lastore, 1) := by decide +kernel
theorem dX2_take_44 : decode cX2_take 44 = .ok (.aload_n 0, 1) := by decide +kernel
theorem dX2_take_45 : decode cX2_take 45 = .ok (.getfield 31, 3) := by decide +kernel
theorem dX2_take_48 : decode cX2_take 48 = .ok (.iload_n 3, 1) := by decide +kernel
theorem dX2_take_49 : decode cX2_take 49 = .ok (.aload_n 1, 1) := by decide +kernel
theorem dX2_take_50 : decode cX2_take 50 = .ok (.getfield 64, 3) := by decide +kernel
theorem dX2_take_53 : decode cX2_take 53 = .ok (.iload_n 2, 1) := by decide +kernel
theorem dX2_take_54 : decode cX2_take 54 = .ok (.iaload, 1) := by decide +kernel
theorem dX2_take_55 : decode cX2_take 55 = .ok (.iastore, 1) := by decide +kernel
theorem dX2_take_56 : decode cX2_take 56 = .ok (.aload_n 0, 1) := by decide +kernel
theorem dX2_take_57 : decode cX2_take 57 = .ok (.getfield 34, 3) := by decide +kernel
theorem dX2_take_60 : decode cX2_take 60 = .ok (.iload_n 3, 1) := by decide +kernel
theorem dX2_take_61 : decode cX2_take 61 = .ok (.aload_n 1, 1) := by decide +kernel
theorem dX2_take_62 : decode cX2_take 62 = .ok (.getfield 65, 3) := by decide +kernel
theorem dX2_take_65 : decode cX2_take 65 = .ok (.iload_n 2, 1) := by decide +kernel
theorem dX2_take_66 : decode cX2_take 66 = .ok (.baload, 1) := by decide +kernel
theorem dX2_take_67 : decode cX2_take 67 = .ok (.bastore, 1) := by decide +kernel
theorem dX2_take_68 : decode cX2_take 68 = .ok (.return_, 1) := by decide +kernel
theorem dX2_time_0 : decode cX2_time 0 = .ok (.iload_n 2, 1) := by decide +kernel
theorem dX2_time_1 : decode cX2_time 1 = .ok (.iconst 2, 1) := by decide +kernel
theorem dX2_time_2 : decode cX2_time 2 = .ok (.if_icmp .ge 12, 3) := by decide +kernel
theorem dX2_time_5 : decode cX2_time 5 = .ok (.aload_n 0, 1) := by decide +kernel
theorem dX2_time_6 : decode cX2_time 6 = .ok (.getfield 18, 3) := by decide +kernel
theorem dX2_time_9 : decode cX2_time 9 = .ok (.iload_n 1, 1) := by decide +kernel
theorem dX2_time_10 : decode cX2_time 10 = .ok (.laload, 1) := by decide +kernel
theorem dX2_time_11 : decode cX2_time 11 = .ok (.goto 9, 3) := by decide +kernel
theorem dX2_time_14 : decode cX2_time 14 = .ok (.aload_n 0, 1) := by decide +kernel
theorem dX2_time_15 : decode cX2_time 15 = .ok (.getfield 22, 3) := by decide +kernel
theorem dX2_time_18 : decode cX2_time 18 = .ok (.iload_n 1, 1) := by decide +kernel
theorem dX2_time_19 : decode cX2_time 19 = .ok (.laload, 1) := by decide +kernel
theorem dX2_time_20 : decode cX2_time 20 = .ok (.lstore_n 3, 1) := by decide +kernel
theorem dX2_time_21 : decode cX2_time 21 = .ok (.lload_n 3, 1) := by decide +kernel
theorem dX2_time_22 : decode cX2_time 22 = .ok (.aload_n 0, 1) := by decide +kernel
theorem dX2_time_23 : decode cX2_time 23 = .ok (.getfield 25, 3) := by decide +kernel
theorem dX2_time_26 : decode cX2_time 26 = .ok (.iload_n 1, 1) := by decide +kernel
theorem dX2_time_27 : decode cX2_time 27 = .ok (.laload, 1) := by decide +kernel
theorem dX2_time_28 : decode cX2_time 28 = .ok (.invokestatic 66, 3) := by decide +kernel
theorem dX2_time_31 : decode cX2_time 31 = .ok (.lstore 5, 2) := by decide +kernel
theorem dX2_time_33 : decode cX2_time 33 = .ok (.iload_n 2, 1) := by decide +kernel
theorem dX2_time_34 : decode cX2_time 34 = .ok (.iconst 2, 1) := by decide +kernel
theorem dX2_time_35 : decode cX2_time 35 = .ok (.irem, 1) := by decide +kernel
theorem dX2_time_36 : decode cX2_time 36 = .ok (.ifCond .ne 7, 3) := by decide +kernel
theorem dX2_time_39 : decode cX2_time 39 = .ok (.lload_n 3, 1) := by decide +kernel
theorem dX2_time_40 : decode cX2_time 40 = .ok (.goto 9, 3) := by decide +kernel
theorem dX2_time_43 : decode cX2_time 43 = .ok (.aload_n 0, 1) := by decide +kernel
theorem dX2_time_44 : decode cX2_time 44 = .ok (.getfield 25, 3) := by decide +kernel
theorem dX2_time_47 : decode cX2_time 47 = .ok (.iload_n 1, 1) := by decide +kernel
theorem dX2_time_48 : decode cX2_time 48 = .ok (.laload, 1) := by decide +kernel
theorem dX2_time_49 : decode cX2_time 49 = .ok (.lload 5, 2) := by decide +kernel
theorem dX2_time_51 : decode cX2_time 51 = .ok (.ldiv, 1) := by decide +kernel
theorem dX2_time_52 : decode cX2_time 52 = .ok (.l2i, 1) := by decide +kernel
theorem dX2_time_53 : decode cX2_time 53 = .ok (.ireturn, 1) := by decide +kernel
theorem dX2_lettersOf_0 : decode cX2_lettersOf 0 = .ok (.iconst 0, 1) := by decide +kernel
theorem dX2_lettersOf_1 : decode cX2_lettersOf 1 = .ok (.istore_n 2, 1) := by decide +kernel
theorem dX2_lettersOf_2 : decode cX2_lettersOf 2 = .ok (.iload_n 2, 1) := by decide +kernel
theorem dX2_lettersOf_3 : decode cX2_lettersOf 3 = .ok (.bipush 8, 2) := by decide +kernel
theorem dX2_lettersOf_5 : decode cX2_lettersOf 5 = .ok (.if_icmp .ge 24, 3) := by decide +kernel
theorem dX2_lettersOf_8 : decode cX2_lettersOf 8 = .ok (.lload_n 0, 1) := by decide +kernel
theorem dX2_lettersOf_9 : decode cX2_lettersOf 9 = .ok (.bipush 8, 2) := by decide +kernel
theorem dX2_lettersOf_11 : decode cX2_lettersOf 11 = .ok (.iload_n 2, 1) := by decide +kernel
theorem dX2_lettersOf_12 : decode cX2_lettersOf 12 = .ok (.imul, 1) := by decide +kernel
theorem dX2_lettersOf_13 : decode cX2_lettersOf 13 = .ok (.lushr, 1) := by decide +kernel
theorem dX2_lettersOf_14 : decode cX2_lettersOf 14 = .ok (.ldc2_w 72, 3) := by decide +kernel
theorem dX2_lettersOf_17 : decode cX2_lettersOf 17 = .ok (.land, 1) := by decide +kernel
theorem dX2_lettersOf_18 : decode cX2_lettersOf 18 = .ok (.lconst 0, 1) := by decide +kernel
theorem dX2_lettersOf_19 : decode cX2_lettersOf 19 = .ok (.lcmp, 1) := by decide +kernel
theorem dX2_lettersOf_20 : decode cX2_lettersOf 20 = .ok (.ifCond .eq 9, 3) := by decide +kernel
theorem dX2_lettersOf_23 : decode cX2_lettersOf 23 = .ok (.iinc 2 1, 3) := by decide +kernel
theorem dX2_lettersOf_26 : decode cX2_lettersOf 26 = .ok (.goto (-24), 3) := by decide +kernel
theorem dX2_lettersOf_29 : decode cX2_lettersOf 29 = .ok (.iload_n 2, 1) := by decide +kernel
theorem dX2_lettersOf_30 : decode cX2_lettersOf 30 = .ok (.ireturn, 1) := by decide +kernel
theorem dX2_letterAt_12 : decode cX2_letterAt 12 = .ok (.iload_n 2, 1) := by decide +kernel
theorem dX2_letterAt_13 : decode cX2_letterAt 13 = .ok (.ifCond .lt 16, 3) := by decide +kernel
theorem dX2_letterAt_16 : decode cX2_letterAt 16 = .ok (.iload_n 2, 1) := by decide +kernel
theorem dX2_letterAt_17 : decode cX2_letterAt 17 = .ok (.aload_n 0, 1) := by decide +kernel
theorem dX2_letterAt_18 : decode cX2_letterAt 18 = .ok (.getfield 28, 3) := by decide +kernel
theorem dX2_letterAt_21 : decode cX2_letterAt 21 = .ok (.iload_n 1, 1) := by decide +kernel
theorem dX2_letterAt_22 : decode cX2_letterAt 22 = .ok (.laload, 1) := by decide +kernel
theorem dX2_letterAt_23 : decode cX2_letterAt 23 = .ok (.invokestatic 74, 3) := by decide +kernel
theorem dX2_letterAt_26 : decode cX2_letterAt 26 = .ok (.if_icmp .lt 5, 3) := by decide +kernel
theorem dX2_letterAt_31 : decode cX2_letterAt 31 = .ok (.aload_n 0, 1) := by decide +kernel
theorem dX2_letterAt_32 : decode cX2_letterAt 32 = .ok (.getfield 28, 3) := by decide +kernel
theorem dX2_letterAt_35 : decode cX2_letterAt 35 = .ok (.iload_n 1, 1) := by decide +kernel
theorem dX2_letterAt_36 : decode cX2_letterAt 36 = .ok (.laload, 1) := by decide +kernel
theorem dX2_letterAt_37 : decode cX2_letterAt 37 = .ok (.bipush 8, 2) := by decide +kernel
theorem dX2_letterAt_39 : decode cX2_letterAt 39 = .ok (.iload_n 2, 1) := by decide +kernel
theorem dX2_letterAt_40 : decode cX2_letterAt 40 = .ok (.imul, 1) := by decide +kernel
theorem dX2_letterAt_41 : decode cX2_letterAt 41 = .ok (.lushr, 1) := by decide +kernel
theorem dX2_letterAt_42 : decode cX2_letterAt 42 = .ok (.ldc2_w 72, 3) := by decide +kernel
theorem dX2_letterAt_45 : decode cX2_letterAt 45 = .ok (.land, 1) := by decide +kernel
theorem dX2_letterAt_46 : decode cX2_letterAt 46 = .ok (.l2i, 1) := by decide +kernel
theorem dX2_letterAt_47 : decode cX2_letterAt 47 = .ok (.ireturn, 1) := by decide +kernel
theorem dX3_make_0 : decode cX3_make 0 = .ok (.aload_n 0, 1) := by decide +kernel
theorem dX3_make_1 : decode cX3_make 1 = .ok (.iconst 0, 1) := by decide +kernel
theorem dX3_make_2 : decode cX3_make 2 = .ok (.putfield 31, 3) := by decide +kernel
theorem dX3_make_5 : decode cX3_make 5 = .ok (.aload_n 0, 1) := by decide +kernel
theorem dX3_make_6 : decode cX3_make 6 = .ok (.getfield 20, 3) := by decide +kernel
theorem dX3_make_9 : decode cX3_make 9 = .ok (.iconst 0, 1) := by decide +kernel
theorem dX3_make_10 : decode cX3_make 10 = .ok (.aload_n 1, 1) := by decide +kernel
theorem dX3_make_11 : decode cX3_make 11 = .ok (.aastore, 1) := by decide +kernel
theorem dX3_make_12 : decode cX3_make 12 = .ok (.aload_n 0, 1) := by decide +kernel
theorem dX3_make_13 : decode cX3_make 13 = .ok (.getfield 24, 3) := by decide +kernel
theorem dX3_make_16 : decode cX3_make 16 = .ok (.iconst 0, 1) := by decide +kernel
theorem dX3_make_17 : decode cX3_make 17 = .ok (.iconst 0, 1) := by decide +kernel
theorem dX3_make_18 : decode cX3_make 18 = .ok (.iastore, 1) := by decide +kernel
theorem dX3_make_19 : decode cX3_make 19 = .ok (.aload_n 0, 1) := by decide +kernel
theorem dX3_make_20 : decode cX3_make 20 = .ok (.getfield 28, 3) := by decide +kernel
theorem dX3_make_23 : decode cX3_make 23 = .ok (.iconst 0, 1) := by decide +kernel
theorem dX3_make_24 : decode cX3_make 24 = .ok (.iconst 0, 1) := by decide +kernel
theorem dX3_make_25 : decode cX3_make 25 = .ok (.iastore, 1) := by decide +kernel
theorem dX3_make_26 : decode cX3_make 26 = .ok (.iconst 0, 1) := by decide +kernel
theorem dX3_make_27 : decode cX3_make 27 = .ok (.istore_n 2, 1) := by decide +kernel
theorem dX3_make_28 : decode cX3_make 28 = .ok (.iload_n 2, 1) := by decide +kernel
theorem dX3_make_29 : decode cX3_make 29 = .ok (.ldc 47, 2) := by decide +kernel
theorem dX3_make_31 : decode cX3_make 31 = .ok (.if_icmp .ge 144, 3) := by decide +kernel
theorem dX3_make_34 : decode cX3_make 34 = .ok (.aload_n 0, 1) := by decide +kernel
theorem dX3_make_35 : decode cX3_make 35 = .ok (.getfield 41, 3) := by decide +kernel
theorem dX3_make_38 : decode cX3_make 38 = .ok (.ifCond .ne 137, 3) := by decide +kernel
theorem dX3_make_41 : decode cX3_make 41 = .ok (.aload_n 0, 1) := by decide +kernel
theorem dX3_make_42 : decode cX3_make 42 = .ok (.getfield 20, 3) := by decide +kernel
theorem dX3_make_45 : decode cX3_make 45 = .ok (.aload_n 0, 1) := by decide +kernel
theorem dX3_make_46 : decode cX3_make 46 = .ok (.getfield 31, 3) := by decide +kernel
theorem dX3_make_49 : decode cX3_make 49 = .ok (.aaload, 1) := by decide +kernel
theorem dX3_make_50 : decode cX3_make 50 = .ok (.astore_n 3, 1) := by decide +kernel
theorem dX3_make_51 : decode cX3_make 51 = .ok (.aload_n 0, 1) := by decide +kernel
theorem dX3_make_52 : decode cX3_make 52 = .ok (.getfield 28, 3) := by decide +kernel
theorem dX3_make_55 : decode cX3_make 55 = .ok (.aload_n 0, 1) := by decide +kernel
theorem dX3_make_56 : decode cX3_make 56 = .ok (.getfield 31, 3) := by decide +kernel
theorem dX3_make_59 : decode cX3_make 59 = .ok (.iaload, 1) := by decide +kernel
theorem dX3_make_60 : decode cX3_make 60 = .ok (.istore 4, 2) := by decide +kernel
theorem dX3_make_62 : decode cX3_make 62 = .ok (.iload 4, 2) := by decide +kernel
theorem dX3_make_64 : decode cX3_make 64 = .ok (.aload_n 3, 1) := by decide +kernel
theorem dX3_make_65 : decode cX3_make 65 = .ok (.getfield 48, 3) := by decide +kernel
theorem dX3_make_68 : decode cX3_make 68 = .ok (.invokevirtual 52, 3) := by decide +kernel
theorem dX3_make_71 : decode cX3_make 71 = .ok (.if_icmp .ge 52, 3) := by decide +kernel
theorem dX3_make_74 : decode cX3_make 74 = .ok (.aload_n 0, 1) := by decide +kernel
theorem dX3_make_75 : decode cX3_make 75 = .ok (.getfield 28, 3) := by decide +kernel
theorem dX3_make_78 : decode cX3_make 78 = .ok (.aload_n 0, 1) := by decide +kernel
theorem dX3_make_79 : decode cX3_make 79 = .ok (.getfield 31, 3) := by decide +kernel
theorem dX3_make_82 : decode cX3_make 82 = .ok (.iload 4, 2) := by decide +kernel
theorem dX3_make_84 : decode cX3_make 84 = .ok (.iconst 1, 1) := by decide +kernel
theorem dX3_make_85 : decode cX3_make 85 = .ok (.iadd, 1) := by decide +kernel
theorem dX3_make_86 : decode cX3_make 86 = .ok (.iastore, 1) := by decide +kernel
theorem dX3_make_87 : decode cX3_make 87 = .ok (.aload_n 0, 1) := by decide +kernel
theorem dX3_make_88 : decode cX3_make 88 = .ok (.aload_n 3, 1) := by decide +kernel
theorem dX3_make_89 : decode cX3_make 89 = .ok (.getfield 48, 3) := by decide +kernel
theorem dX3_make_92 : decode cX3_make 92 = .ok (.iload 4, 2) := by decide +kernel
theorem dX3_make_94 : decode cX3_make 94 = .ok (.invokevirtual 58, 3) := by decide +kernel
theorem dX3_make_97 : decode cX3_make 97 = .ok (.checkcast 62, 3) := by decide +kernel
theorem dX3_make_100 : decode cX3_make 100 = .ok (.aload_n 0, 1) := by decide +kernel
theorem dX3_make_101 : decode cX3_make 101 = .ok (.getfield 24, 3) := by decide +kernel
theorem dX3_make_104 : decode cX3_make 104 = .ok (.aload_n 0, 1) := by decide +kernel
theorem dX3_make_105 : decode cX3_make 105 = .ok (.getfield 31, 3) := by decide +kernel
theorem dX3_make_108 : decode cX3_make 108 = .ok (.iaload, 1) := by decide +kernel
theorem dX3_make_109 : decode cX3_make 109 = .ok (.aload_n 3, 1) := by decide +kernel
theorem dX3_make_110 : decode cX3_make 110 = .ok (.getfield 64, 3) := by decide +kernel
theorem dX3_make_113 : decode cX3_make 113 = .ok (.iadd, 1) := by decide +kernel
theorem dX3_make_114 : decode cX3_make 114 = .ok (.iload 4, 2) := by decide +kernel
theorem dX3_make_116 : decode cX3_make 116 = .ok (.iadd, 1) := by decide +kernel
theorem dX3_make_117 : decode cX3_make 117 = .ok (.invokevirtual 67, 3) := by decide +kernel
theorem dX3_make_120 : decode cX3_make 120 = .ok (.goto 49, 3) := by decide +kernel
theorem dX3_make_123 : decode cX3_make 123 = .ok (.aload_n 0, 1) := by decide +kernel
theorem dX3_make_124 : decode cX3_make 124 = .ok (.aload_n 3, 1) := by decide +kernel
theorem dX3_make_125 : decode cX3_make 125 = .ok (.getfield 71, 3) := by decide +kernel
theorem dX3_make_128 : decode cX3_make 128 = .ok (.invokevirtual 74, 3) := by decide +kernel
theorem dX3_make_131 : decode cX3_make 131 = .ok (.astore 5, 2) := by decide +kernel
theorem dX3_make_133 : decode cX3_make 133 = .ok (.aload_n 0, 1) := by decide +kernel
theorem dX3_make_134 : decode cX3_make 134 = .ok (.getfield 31, 3) := by decide +kernel
theorem dX3_make_137 : decode cX3_make 137 = .ok (.ifCond .ne 6, 3) := by decide +kernel
theorem dX3_make_140 : decode cX3_make 140 = .ok (.aload 5, 2) := by decide +kernel
theorem dX3_make_142 : decode cX3_make 142 = .ok (.areturn, 1) := by decide +kernel
theorem dX3_make_143 : decode cX3_make 143 = .ok (.aload_n 0, 1) := by decide +kernel
theorem dX3_make_144 : decode cX3_make 144 = .ok (.getfield 15, 3) := by decide +kernel
theorem dX3_make_147 : decode cX3_make 147 = .ok (.aload_n 0, 1) := by decide +kernel
theorem dX3_make_148 : decode cX3_make 148 = .ok (.getfield 24, 3) := by decide +kernel
theorem dX3_make_151 : decode cX3_make 151 = .ok (.aload_n 0, 1) := by decide +kernel
theorem dX3_make_152 : decode cX3_make 152 = .ok (.getfield 31, 3) := by decide +kernel
theorem dX3_make_155 : decode cX3_make 155 = .ok (.iaload, 1) := by decide +kernel
theorem dX3_make_156 : decode cX3_make 156 = .ok (.aload 5, 2) := by decide +kernel
theorem dX3_make_158 : decode cX3_make 158 = .ok (.aastore, 1) := by decide +kernel
theorem dX3_make_159 : decode cX3_make 159 = .ok (.aload_n 0, 1) := by decide +kernel
theorem dX3_make_160 : decode cX3_make 160 = .ok (.dup, 1) := by decide +kernel
theorem dX3_make_161 : decode cX3_make 161 = .ok (.getfield 31, 3) := by decide +kernel
theorem dX3_make_164 : decode cX3_make 164 = .ok (.iconst 1, 1) := by decide +kernel
theorem dX3_make_165 : decode cX3_make 165 = .ok (.isub, 1) := by decide +kernel
theorem dX3_make_166 : decode cX3_make 166 = .ok (.putfield 31, 3) := by decide +kernel
theorem dX3_make_169 : decode cX3_make 169 = .ok (.iinc 2 1, 3) := by decide +kernel
theorem dX3_make_172 : decode cX3_make 172 = .ok (.goto (-144), 3) := by decide +kernel
theorem dX3_make_175 : decode cX3_make 175 = .ok (.aconst_null, 1) := by decide +kernel
theorem dX3_make_176 : decode cX3_make 176 = .ok (.areturn, 1) := by decide +kernel
theorem dX3_carryOut_0 : decode cX3_carryOut 0 = .ok (.aload_n 0, 1) := by decide +kernel
theorem dX3_carryOut_1 : decode cX3_carryOut 1 = .ok (.getfield 31, 3) := by decide +kernel
theorem dX3_carryOut_4 : decode cX3_carryOut 4 = .ok (.ifCond .ne 10, 3) := by decide +kernel
theorem dX3_carryOut_7 : decode cX3_carryOut 7 = .ok (.aload_n 1, 1) := by decide +kernel
theorem dX3_carryOut_8 : decode cX3_carryOut 8 = .ok (.getfield 78, 3) := by decide +kernel
theorem dX3_carryOut_11 : decode cX3_carryOut 11 = .ok (.goto 7, 3) := by decide +kernel
theorem dX3_carryOut_14 : decode cX3_carryOut 14 = .ok (.aload_n 0, 1) := by decide +kernel
theorem dX3_carryOut_15 : decode cX3_carryOut 15 = .ok (.getfield 35, 3) := by decide +kernel
theorem dX3_carryOut_18 : decode cX3_carryOut 18 = .ok (.istore_n 3, 1) := by decide +kernel
theorem dX3_carryOut_19 : decode cX3_carryOut 19 = .ok (.aload_n 1, 1) := by decide +kernel
theorem dX3_carryOut_20 : decode cX3_carryOut 20 = .ok (.getfield 79, 3) := by decide +kernel
theorem dX3_carryOut_23 : decode cX3_carryOut 23 = .ok (.bipush 25, 2) := by decide +kernel
theorem dX3_carryOut_25 : decode cX3_carryOut 25 = .ok (.if_icmp .ne 13, 3) := by decide +kernel
theorem dX3_carryOut_28 : decode cX3_carryOut 28 = .ok (.aload_n 0, 1) := by decide +kernel
theorem dX3_carryOut_29 : decode cX3_carryOut 29 = .ok (.aload_n 1, 1) := by decide +kernel
theorem dX3_carryOut_30 : decode cX3_carryOut 30 = .ok (.iload_n 2, 1) := by decide +kernel
theorem dX3_carryOut_31 : decode cX3_carryOut 31 = .ok (.iload_n 3, 1) := by decide +kernel
theorem dX3_carryOut_32 : decode cX3_carryOut 32 = .ok (.invokevirtual 82, 3) := by decide +kernel
theorem dX3_carryOut_35 : decode cX3_carryOut 35 = .ok (.goto 22, 3) := by decide +kernel
theorem dX3_carryOut_38 : decode cX3_carryOut 38 = .ok (.iload_n 2, 1) := by decide +kernel
theorem dX3_carryOut_39 : decode cX3_carryOut 39 = .ok (.sipush 512, 3) := by decide +kernel
theorem dX3_carryOut_42 : decode cX3_carryOut 42 = .ok (.if_icmp .ge 15, 3) := by decide +kernel
theorem dX3_carryOut_45 : decode cX3_carryOut 45 = .ok (.aload_n 0, 1) := by decide +kernel
theorem dX3_carryOut_46 : decode cX3_carryOut 46 = .ok (.getfield 15, 3) := by decide +kernel
theorem dX3_carryOut_49 : decode cX3_carryOut 49 = .ok (.iload_n 2, 1) := by decide +kernel
theorem dX3_carryOut_50 : decode cX3_carryOut 50 = .ok (.aload_n 0, 1) := by decide +kernel
theorem dX3_carryOut_51 : decode cX3_carryOut 51 = .ok (.aload_n 1, 1) := by decide +kernel
theorem dX3_carryOut_52 : decode cX3_carryOut 52 = .ok (.iload_n 3, 1) := by decide +kernel
theorem dX3_carryOut_53 : decode cX3_carryOut 53 = .ok (.invokevirtual 86, 3) := by decide +kernel
theorem dX3_carryOut_56 : decode cX3_carryOut 56 = .ok (.aastore, 1) := by decide +kernel
theorem dX3_carryOut_57 : decode cX3_carryOut 57 = .ok (.return_, 1) := by decide +kernel
theorem dX3_fail_0 : decode cX3_fail 0 = .ok (.aload_n 0, 1) := by decide +kernel
theorem dX3_fail_1 : decode cX3_fail 1 = .ok (.iload_n 1, 1) := by decide +kernel
theorem dX3_fail_2 : decode cX3_fail 2 = .ok (.putfield 41, 3) := by decide +kernel
theorem dX3_fail_5 : decode cX3_fail 5 = .ok (.aload_n 0, 1) := by decide +kernel
theorem dX3_fail_6 : decode cX3_fail 6 = .ok (.iload_n 2, 1) := by decide +kernel
theorem dX3_fail_7 : decode cX3_fail 7 = .ok (.putfield 44, 3) := by decide +kernel
theorem dX3_fail_10 : decode cX3_fail 10 = .ok (.return_, 1) := by decide +kernel
theorem dX3_operand_0 : decode cX3_operand 0 = .ok (.aload_n 0, 1) := by decide +kernel
theorem dX3_operand_1 : decode cX3_operand 1 = .ok (.getfield 20, 3) := by decide +kernel
theorem dX3_operand_4 : decode cX3_operand 4 = .ok (.aload_n 0, 1) := by decide +kernel
theorem dX3_operand_5 : decode cX3_operand 5 = .ok (.getfield 31, 3) := by decide +kernel
theorem dX3_operand_8 : decode cX3_operand 8 = .ok (.aaload, 1) := by decide +kernel
theorem dX3_operand_9 : decode cX3_operand 9 = .ok (.astore_n 2, 1) := by decide +kernel
theorem dX3_operand_10 : decode cX3_operand 10 = .ok (.iload_n 1, 1) := by decide +kernel
theorem dX3_operand_11 : decode cX3_operand 11 = .ok (.ifCond .ge 34, 3) := by decide +kernel
theorem dX3_operand_14 : decode cX3_operand 14 = .ok (.iload_n 1, 1) := by decide +kernel
theorem dX3_operand_15 : decode cX3_operand 15 = .ok (.ineg, 1) := by decide +kernel
theorem dX3_operand_16 : decode cX3_operand 16 = .ok (.aload_n 2, 1) := by decide +kernel
theorem dX3_operand_17 : decode cX3_operand 17 = .ok (.getfield 90, 3) := by decide +kernel
theorem dX3_operand_20 : decode cX3_operand 20 = .ok (.invokevirtual 52, 3) := by decide +kernel
theorem dX3_operand_23 : decode cX3_operand 23 = .ok (.if_icmp .gt 20, 3) := by decide +kernel
theorem dX3_operand_26 : decode cX3_operand 26 = .ok (.aload_n 2, 1) := by decide +kernel
theorem dX3_operand_27 : decode cX3_operand 27 = .ok (.getfield 90, 3) := by decide +kernel
theorem dX3_operand_30 : decode cX3_operand 30 = .ok (.iload_n 1, 1) := by decide +kernel
theorem dX3_operand_31 : decode cX3_operand 31 = .ok (.ineg, 1) := by decide +kernel
theorem dX3_operand_32 : decode cX3_operand 32 = .ok (.iconst 1, 1) := by decide +kernel
theorem dX3_operand_33 : decode cX3_operand 33 = .ok (.isub, 1) := by decide +kernel
theorem dX3_operand_34 : decode cX3_operand 34 = .ok (.invokevirtual 58, 3) := by decide +kernel
theorem dX3_operand_37 : decode cX3_operand 37 = .ok (.checkcast 7, 3) := by decide +kernel
theorem dX3_operand_40 : decode cX3_operand 40 = .ok (.goto 4, 3) := by decide +kernel
theorem dX3_operand_43 : decode cX3_operand 43 = .ok (.aconst_null, 1) := by decide +kernel
theorem dX3_operand_44 : decode cX3_operand 44 = .ok (.areturn, 1) := by decide +kernel
theorem dX3_operand_45 : decode cX3_operand 45 = .ok (.aload_n 0, 1) := by decide +kernel
theorem dX3_operand_46 : decode cX3_operand 46 = .ok (.getfield 24, 3) := by decide +kernel
theorem dX3_operand_49 : decode cX3_operand 49 = .ok (.aload_n 0, 1) := by decide +kernel
theorem dX3_operand_50 : decode cX3_operand 50 = .ok (.getfield 31, 3) := by decide +kernel
theorem dX3_operand_53 : decode cX3_operand 53 = .ok (.iaload, 1) := by decide +kernel
theorem dX3_operand_54 : decode cX3_operand 54 = .ok (.iload_n 1, 1) := by decide +kernel
theorem dX3_operand_55 : decode cX3_operand 55 = .ok (.iadd, 1) := by decide +kernel
theorem dX3_operand_56 : decode cX3_operand 56 = .ok (.istore_n 3, 1) := by decide +kernel
theorem dX3_operand_57 : decode cX3_operand 57 = .ok (.iload_n 3, 1) := by decide +kernel
theorem dX3_operand_58 : decode cX3_operand 58 = .ok (.sipush 512, 3) := by decide +kernel
theorem dX3_operand_61 : decode cX3_operand 61 = .ok (.if_icmp .ge 12, 3) := by decide +kernel
theorem dX3_operand_64 : decode cX3_operand 64 = .ok (.aload_n 0, 1) := by decide +kernel
theorem dX3_operand_65 : decode cX3_operand 65 = .ok (.getfield 15, 3) := by decide +kernel
theorem dX3_operand_68 : decode cX3_operand 68 = .ok (.iload_n 3, 1) := by decide +kernel
theorem dX3_operand_69 : decode cX3_operand 69 = .ok (.aaload, 1) := by decide +kernel
theorem dX3_operand_70 : decode cX3_operand 70 = .ok (.goto 4, 3) := by decide +kernel
theorem dX3_operand_73 : decode cX3_operand 73 = .ok (.aconst_null, 1) := by decide +kernel
theorem dX3_operand_74 : decode cX3_operand 74 = .ok (.areturn, 1) := by decide +kernel
theorem dX3_begin_0 : decode cX3_begin 0 = .ok (.aload_n 0, 1) := by decide +kernel
theorem dX3_begin_1 : decode cX3_begin 1 = .ok (.getfield 31, 3) := by decide +kernel
theorem dX3_begin_4 : decode cX3_begin 4 = .ok (.bipush 12, 2) := by decide +kernel
theorem dX3_begin_6 : decode cX3_begin 6 = .ok (.if_icmp .lt 11, 3) := by decide +kernel
theorem dX3_begin_9 : decode cX3_begin 9 = .ok (.aload_n 0, 1) := by decide +kernel
theorem dX3_begin_10 : decode cX3_begin 10 = .ok (.bipush 10, 2) := by decide +kernel
theorem dX3_begin_12 : decode cX3_begin 12 = .ok (.iload_n 3, 1) := by decide +kernel
theorem dX3_begin_13 : decode cX3_begin 13 = .ok (.invokevirtual 93, 3) := by decide +kernel
theorem dX3_begin_16 : decode cX3_begin 16 = .ok (.return_, 1) := by decide +kernel
theorem dX3_begin_17 : decode cX3_begin 17 = .ok (.aload_n 0, 1) := by decide +kernel
theorem dX3_begin_18 : decode cX3_begin 18 = .ok (.getfield 38, 3) := by decide +kernel
theorem dX3_begin_21 : decode cX3_begin 21 = .ok (.sipush 200, 3) := by decide +kernel
theorem dX3_begin_24 : decode cX3_begin 24 = .ok (.if_icmp .lt 10, 3) := by decide +kernel
theorem dX3_begin_27 : decode cX3_begin 27 = .ok (.aload_n 0, 1) := by decide +kernel
theorem dX3_begin_28 : decode cX3_begin 28 = .ok (.iconst 5, 1) := by decide +kernel
theorem dX3_begin_29 : decode cX3_begin 29 = .ok (.iload_n 3, 1) := by decide +kernel
theorem dX3_begin_30 : decode cX3_begin 30 = .ok (.invokevirtual 93, 3) := by decide +kernel
theorem dX3_begin_33 : decode cX3_begin 33 = .ok (.return_, 1) := by decide +kernel
theorem dX3_begin_34 : decode cX3_begin 34 = .ok (.aload_n 0, 1) := by decide +kernel
theorem dX3_begin_35 : decode cX3_begin 35 = .ok (.dup, 1) := by decide +kernel
theorem dX3_begin_36 : decode cX3_begin 36 = .ok (.getfield 38, 3) := by decide +kernel
theorem dX3_begin_39 : decode cX3_begin 39 = .ok (.iconst 1, 1) := by decide +kernel
theorem dX3_begin_40 : decode cX3_begin 40 = .ok (.iadd, 1) := by decide +kernel
theorem dX3_begin_41 : decode cX3_begin 41 = .ok (.putfield 38, 3) := by decide +kernel
theorem dX3_begin_44 : decode cX3_begin 44 = .ok (.iconst 0, 1) := by decide +kernel
theorem dX3_begin_45 : decode cX3_begin 45 = .ok (.istore 4, 2) := by decide +kernel
theorem dX3_begin_47 : decode cX3_begin 47 = .ok (.iload 4, 2) := by decide +kernel
theorem dX3_begin_49 : decode cX3_begin 49 = .ok (.aload_n 1, 1) := by decide +kernel
theorem dX3_begin_50 : decode cX3_begin 50 = .ok (.getfield 97, 3) := by decide +kernel
theorem dX3_begin_53 : decode cX3_begin 53 = .ok (.if_icmp .ge 39, 3) := by decide +kernel
theorem dX3_begin_56 : decode cX3_begin 56 = .ok (.iload_n 2, 1) := by decide +kernel
theorem dX3_begin_57 : decode cX3_begin 57 = .ok (.iload 4, 2) := by decide +kernel
theorem dX3_begin_59 : decode cX3_begin 59 = .ok (.iadd, 1) := by decide +kernel
theorem dX3_begin_60 : decode cX3_begin 60 = .ok (.sipush 512, 3) := by decide +kernel
theorem dX3_begin_63 : decode cX3_begin 63 = .ok (.if_icmp .ge 29, 3) := by decide +kernel
theorem dX3_begin_66 : decode cX3_begin 66 = .ok (.aload_n 0, 1) := by decide +kernel
theorem dX3_begin_67 : decode cX3_begin 67 = .ok (.getfield 15, 3) := by decide +kernel
theorem dX3_begin_70 : decode cX3_begin 70 = .ok (.iload_n 2, 1) := by decide +kernel
theorem dX3_begin_71 : decode cX3_begin 71 = .ok (.iload 4, 2) := by decide +kernel
theorem dX3_begin_73 : decode cX3_begin 73 = .ok (.iadd, 1) := by decide +kernel
theorem dX3_begin_74 : decode cX3_begin 74 = .ok (.aload_n 0, 1) := by decide +kernel
theorem dX3_begin_75 : decode cX3_begin 75 = .ok (.aload_n 1, 1) := by decide +kernel
theorem dX3_begin_76 : decode cX3_begin 76 = .ok (.getfield 100, 3) := by decide +kernel
theorem dX3_begin_79 : decode cX3_begin 79 = .ok (.iload 4, 2) := by decide +kernel
theorem dX3_begin_81 : decode cX3_begin 81 = .ok (.iaload, 1) := by decide +kernel
theorem dX3_begin_82 : decode cX3_begin 82 = .ok (.invokevirtual 74, 3) := by decide +kernel
theorem dX3_begin_85 : decode cX3_begin 85 = .ok (.aastore, 1) := by decide +kernel
theorem dX3_begin_86 : decode cX3_begin 86 = .ok (.iinc 4 1, 3) := by decide +kernel
theorem dX3_begin_89 : decode cX3_begin 89 = .ok (.goto (-42), 3) := by decide +kernel
theorem dX3_begin_92 : decode cX3_begin 92 = .ok (.aload_n 0, 1) := by decide +kernel
theorem dX3_begin_93 : decode cX3_begin 93 = .ok (.iload_n 3, 1) := by decide +kernel
theorem dX3_begin_94 : decode cX3_begin 94 = .ok (.putfield 35, 3) := by decide +kernel
theorem dX3_begin_97 : decode cX3_begin 97 = .ok (.aload_n 0, 1) := by decide +kernel
theorem dX3_begin_98 : decode cX3_begin 98 = .ok (.dup, 1) := by decide +kernel
theorem dX3_begin_99 : decode cX3_begin 99 = .ok (.getfield 31, 3) := by decide +kernel
theorem dX3_begin_102 : decode cX3_begin 102 = .ok (.iconst 1, 1) := by decide +kernel
theorem dX3_begin_103 : decode cX3_begin 103 = .ok (.iadd, 1) := by decide +kernel
theorem dX3_begin_104 : decode cX3_begin 104 = .ok (.putfield 31, 3) := by decide +kernel
theorem dX3_begin_107 : decode cX3_begin 107 = .ok (.aload_n 0, 1) := by decide +kernel
theorem dX3_begin_108 : decode cX3_begin 108 = .ok (.getfield 20, 3) := by decide +kernel
theorem dX3_begin_111 : decode cX3_begin 111 = .ok (.aload_n 0, 1) := by decide +kernel
theorem dX3_begin_112 : decode cX3_begin 112 = .ok (.getfield 31, 3) := by decide +kernel
theorem dX3_begin_115 : decode cX3_begin 115 = .ok (.aload_n 1, 1) := by decide +kernel
theorem dX3_begin_116 : decode cX3_begin 116 = .ok (.getfield 103, 3) := by decide +kernel
theorem dX3_begin_119 : decode cX3_begin 119 = .ok (.aastore, 1) := by decide +kernel
theorem dX3_begin_120 : decode cX3_begin 120 = .ok (.aload_n 0, 1) := by decide +kernel
theorem dX3_begin_121 : decode cX3_begin 121 = .ok (.getfield 24, 3) := by decide +kernel
theorem dX3_begin_124 : decode cX3_begin 124 = .ok (.aload_n 0, 1) := by decide +kernel
theorem dX3_begin_125 : decode cX3_begin 125 = .ok (.getfield 31, 3) := by decide +kernel
theorem dX3_begin_128 : decode cX3_begin 128 = .ok (.iload_n 2, 1) := by decide +kernel
theorem dX3_begin_129 : decode cX3_begin 129 = .ok (.iastore, 1) := by decide +kernel
theorem dX3_begin_130 : decode cX3_begin 130 = .ok (.aload_n 0, 1) := by decide +kernel
theorem dX3_begin_131 : decode cX3_begin 131 = .ok (.getfield 28, 3) := by decide +kernel
theorem dX3_begin_134 : decode cX3_begin 134 = .ok (.aload_n 0, 1) := by decide +kernel
theorem dX3_begin_135 : decode cX3_begin 135 = .ok (.getfield 31, 3) := by decide +kernel
theorem dX3_begin_138 : decode cX3_begin 138 = .ok (.iconst 0, 1) := by decide +kernel
theorem dX3_begin_139 : decode cX3_begin 139 = .ok (.iastore, 1) := by decide +kernel
theorem dX3_begin_140 : decode cX3_begin 140 = .ok (.return_, 1) := by decide +kernel
theorem dX3_build_0 : decode cX3_build 0 = .ok (.aload_n 0, 1) := by decide +kernel
theorem dX3_build_1 : decode cX3_build 1 = .ok (.getfield 38, 3) := by decide +kernel
theorem dX3_build_4 : decode cX3_build 4 = .ok (.aload_n 1, 1) := by decide +kernel
theorem dX3_build_5 : decode cX3_build 5 = .ok (.invokevirtual 107, 3) := by decide +kernel
theorem dX3_build_8 : decode cX3_build 8 = .ok (.iadd, 1) := by decide +kernel
theorem dX3_build_9 : decode cX3_build 9 = .ok (.istore_n 3, 1) := by decide +kernel
theorem dX3_build_10 : decode cX3_build 10 = .ok (.iload_n 3, 1) := by decide +kernel
theorem dX3_build_11 : decode cX3_build 11 = .ok (.sipush 200, 3) := by decide +kernel
theorem dX3_build_14 : decode cX3_build 14 = .ok (.if_icmp .lt 18, 3) := by decide +kernel
theorem dX3_build_17 : decode cX3_build 17 = .ok (.aload_n 0, 1) := by decide +kernel
theorem dX3_build_18 : decode cX3_build 18 = .ok (.sipush 200, 3) := by decide +kernel
theorem dX3_build_21 : decode cX3_build 21 = .ok (.putfield 38, 3) := by decide +kernel
theorem dX3_build_24 : decode cX3_build 24 = .ok (.aload_n 0, 1) := by decide +kernel
theorem dX3_build_25 : decode cX3_build 25 = .ok (.iconst 5, 1) := by decide +kernel
theorem dX3_build_26 : decode cX3_build 26 = .ok (.iload_n 2, 1) := by decide +kernel
theorem dX3_build_27 : decode cX3_build 27 = .ok (.invokevirtual 93, 3) := by decide +kernel
theorem dX3_build_30 : decode cX3_build 30 = .ok (.aconst_null, 1) := by decide +kernel
theorem dX3_build_31 : decode cX3_build 31 = .ok (.areturn, 1) := by decide +kernel
theorem dX3_build_32 : decode cX3_build 32 = .ok (.aload_n 0, 1) := by decide +kernel
theorem dX3_build_33 : decode cX3_build 33 = .ok (.iload_n 3, 1) := by decide +kernel
theorem dX3_build_34 : decode cX3_build 34 = .ok (.putfield 38, 3) := by decide +kernel
theorem dX3_build_37 : decode cX3_build 37 = .ok (.aload_n 1, 1) := by decide +kernel
theorem dX3_build_38 : decode cX3_build 38 = .ok (.getfield 97, 3) := by decide +kernel
theorem dX3_build_41 : decode cX3_build 41 = .ok (.ifCond .ne 10, 3) := by decide +kernel
theorem dX3_build_44 : decode cX3_build 44 = .ok (.aload_n 0, 1) := by decide +kernel
theorem dX3_build_45 : decode cX3_build 45 = .ok (.getfield 9, 3) := by decide +kernel
theorem dX3_build_48 : decode cX3_build 48 = .ok (.goto 10, 3) := by decide +kernel
theorem dX3_build_51 : decode cX3_build 51 = .ok (.aload_n 1, 1) := by decide +kernel
theorem dX3_build_52 : decode cX3_build 52 = .ok (.getfield 97, 3) := by decide +kernel
theorem dX3_build_55 : decode cX3_build 55 = .ok (.anewarray 7, 3) := by decide +kernel
theorem dX3_build_58 : decode cX3_build 58 = .ok (.astore 4, 2) := by decide +kernel
theorem dX3_build_60 : decode cX3_build 60 = .ok (.iconst 0, 1) := by decide +kernel
theorem dX3_build_61 : decode cX3_build 61 = .ok (.istore 5, 2) := by decide +kernel
theorem dX3_build_63 : decode cX3_build 63 = .ok (.iload 5, 2) := by decide +kernel
theorem dX3_build_65 : decode cX3_build 65 = .ok (.aload_n 1, 1) := by decide +kernel
theorem dX3_build_66 : decode cX3_build 66 = .ok (.getfield 97, 3) := by decide +kernel
theorem dX3_build_69 : decode cX3_build 69 = .ok (.if_icmp .ge 25, 3) := by decide +kernel
theorem dX3_build_72 : decode cX3_build 72 = .ok (.aload 4, 2) := by decide +kernel
theorem dX3_build_74 : decode cX3_build 74 = .ok (.iload 5, 2) := by decide +kernel
theorem dX3_build_76 : decode cX3_build 76 = .ok (.aload_n 0, 1) := by decide +kernel
theorem dX3_build_77 : decode cX3_build 77 = .ok (.aload_n 1, 1) := by decide +kernel
theorem dX3_build_78 : decode cX3_build 78 = .ok (.getfield 100, 3) := by decide +kernel
theorem dX3_build_81 : decode cX3_build 81 = .ok (.iload 5, 2) := by decide +kernel
theorem dX3_build_83 : decode cX3_build 83 = .ok (.iaload, 1) := by decide +kernel
theorem dX3_build_84 : decode cX3_build 84 = .ok (.invokevirtual 74, 3) := by decide +kernel
theorem dX3_build_87 : decode cX3_build 87 = .ok (.aastore, 1) := by decide +kernel
theorem dX3_build_88 : decode cX3_build 88 = .ok (.iinc 5 1, 3) := by decide +kernel
theorem dX3_build_91 : decode cX3_build 91 = .ok (.goto (-28), 3) := by decide +kernel
theorem dX3_build_94 : decode cX3_build 94 = .ok (.new 7, 3) := by decide +kernel
theorem dX3_build_97 : decode cX3_build 97 = .ok (.dup, 1) := by decide +kernel
theorem dX3_build_98 : decode cX3_build 98 = .ok (.aload_n 1, 1) := by decide +kernel
theorem dX3_build_99 : decode cX3_build 99 = .ok (.aload 4, 2) := by decide +kernel
theorem dX3_build_101 : decode cX3_build 101 = .ok (.invokespecial 110, 3) := by decide +kernel
theorem dX3_build_104 : decode cX3_build 104 = .ok (.astore 5, 2) := by decide +kernel
theorem dX3_build_106 : decode cX3_build 106 = .ok (.aload 5, 2) := by decide +kernel
theorem dX3_build_108 : decode cX3_build 108 = .ok (.invokevirtual 113, 3) := by decide +kernel
theorem dX3_build_111 : decode cX3_build 111 = .ok (.aload 5, 2) := by decide +kernel
theorem dX3_build_113 : decode cX3_build 113 = .ok (.invokevirtual 116, 3) := by decide +kernel
theorem dX3_build_116 : decode cX3_build 116 = .ok (.ifCond .eq 15, 3) := by decide +kernel
theorem dX3_build_119 : decode cX3_build 119 = .ok (.aload_n 0, 1) := by decide +kernel
theorem dX3_build_120 : decode cX3_build 120 = .ok (.aload 5, 2) := by decide +kernel
theorem dX3_build_122 : decode cX3_build 122 = .ok (.invokevirtual 116, 3) := by decide +kernel
theorem dX3_build_125 : decode cX3_build 125 = .ok (.iload_n 2, 1) := by decide +kernel
theorem dX3_build_126 : decode cX3_build 126 = .ok (.invokevirtual 93, 3) := by decide +kernel
theorem dX3_build_129 : decode cX3_build 129 = .ok (.aconst_null, 1) := by decide +kernel
theorem dX3_build_130 : decode cX3_build 130 = .ok (.areturn, 1) := by decide +kernel
theorem dX3_build_131 : decode cX3_build 131 = .ok (.aload_n 0, 1) := by decide +kernel
theorem dX3_build_132 : decode cX3_build 132 = .ok (.dup, 1) := by decide +kernel
theorem dX3_build_133 : decode cX3_build 133 = .ok (.getfield 38, 3) := by decide +kernel
theorem dX3_build_136 : decode cX3_build 136 = .ok (.iconst 1, 1) := by decide +kernel
theorem dX3_build_137 : decode cX3_build 137 = .ok (.iadd, 1) := by decide +kernel
theorem dX3_build_138 : decode cX3_build 138 = .ok (.putfield 38, 3) := by decide +kernel
theorem dX3_build_141 : decode cX3_build 141 = .ok (.aload 5, 2) := by decide +kernel
theorem dX3_build_143 : decode cX3_build 143 = .ok (.areturn, 1) := by decide +kernel
theorem dX4_init_0 : decode cX4_init 0 = .ok (.aload_n 0, 1) := by decide +kernel
theorem dX4_init_1 : decode cX4_init 1 = .ok (.invokespecial 1, 3) := by decide +kernel
theorem dX4_init_4 : decode cX4_init 4 = .ok (.aload_n 0, 1) := by decide +kernel
theorem dX4_init_5 : decode cX4_init 5 = .ok (.lconst 1, 1) := by decide +kernel
theorem dX4_init_6 : decode cX4_init 6 = .ok (.putfield 7, 3) := by decide +kernel
theorem dX4_init_9 : decode cX4_init 9 = .ok (.aload_n 0, 1) := by decide +kernel
theorem dX4_init_10 : decode cX4_init 10 = .ok (.lconst 0, 1) := by decide +kernel
theorem dX4_init_11 : decode cX4_init 11 = .ok (.putfield 13, 3) := by decide +kernel
theorem dX4_init_14 : decode cX4_init 14 = .ok (.aload_n 0, 1) := by decide +kernel
theorem dX4_init_15 : decode cX4_init 15 = .ok (.lconst 1, 1) := by decide +kernel
theorem dX4_init_16 : decode cX4_init 16 = .ok (.putfield 16, 3) := by decide +kernel
theorem dX4_init_19 : decode cX4_init 19 = .ok (.aload_n 0, 1) := by decide +kernel
theorem dX4_init_20 : decode cX4_init 20 = .ok (.lconst 1, 1) := by decide +kernel
theorem dX4_init_21 : decode cX4_init 21 = .ok (.putfield 19, 3) := by decide +kernel
theorem dX4_init_24 : decode cX4_init 24 = .ok (.aload_n 0, 1) := by decide +kernel
theorem dX4_init_25 : decode cX4_init 25 = .ok (.iconst 1, 1) := by decide +kernel
theorem dX4_init_26 : decode cX4_init 26 = .ok (.putfield 22, 3) := by decide +kernel
theorem dX4_init_29 : decode cX4_init 29 = .ok (.aload_n 0, 1) := by decide +kernel
theorem dX4_init_30 : decode cX4_init 30 = .ok (.aload_n 1, 1) := by decide +kernel
theorem dX4_init_31 : decode cX4_init 31 = .ok (.putfield 26, 3) := by decide +kernel
theorem dX4_init_34 : decode cX4_init 34 = .ok (.aload_n 0, 1) := by decide +kernel
theorem dX4_init_35 : decode cX4_init 35 = .ok (.aload_n 2, 1) := by decide +kernel
theorem dX4_init_36 : decode cX4_init 36 = .ok (.putfield 30, 3) := by decide +kernel
theorem dX4_init_39 : decode cX4_init 39 = .ok (.return_, 1) := by decide +kernel
theorem dX4_gcd_0 : decode cX4_gcd 0 = .ok (.lload_n 0, 1) := by decide +kernel
theorem dX4_gcd_1 : decode cX4_gcd 1 = .ok (.lstore 4, 2) := by decide +kernel
theorem dX4_gcd_3 : decode cX4_gcd 3 = .ok (.lload_n 2, 1) := by decide +kernel
theorem dX4_gcd_4 : decode cX4_gcd 4 = .ok (.lstore 6, 2) := by decide +kernel
theorem dX4_gcd_6 : decode cX4_gcd 6 = .ok (.iconst 0, 1) := by decide +kernel
theorem dX4_gcd_7 : decode cX4_gcd 7 = .ok (.istore 8, 2) := by decide +kernel
theorem dX4_gcd_9 : decode cX4_gcd 9 = .ok (.iload 8, 2) := by decide +kernel
theorem dX4_gcd_11 : decode cX4_gcd 11 = .ok (.sipush 200, 3) := by decide +kernel
theorem dX4_gcd_14 : decode cX4_gcd 14 = .ok (.if_icmp .ge 31, 3) := by decide +kernel
theorem dX4_gcd_17 : decode cX4_gcd 17 = .ok (.lload 6, 2) := by decide +kernel
theorem dX4_gcd_19 : decode cX4_gcd 19 = .ok (.lconst 0, 1) := by decide +kernel
theorem dX4_gcd_20 : decode cX4_gcd 20 = .ok (.lcmp, 1) := by decide +kernel
theorem dX4_gcd_21 : decode cX4_gcd 21 = .ok (.ifCond .eq 24, 3) := by decide +kernel
theorem dX4_gcd_24 : decode cX4_gcd 24 = .ok (.lload 4, 2) := by decide +kernel
theorem dX4_gcd_26 : decode cX4_gcd 26 = .ok (.lload 6, 2) := by decide +kernel
theorem dX4_gcd_28 : decode cX4_gcd 28 = .ok (.lrem, 1) := by decide +kernel
theorem dX4_gcd_29 : decode cX4_gcd 29 = .ok (.lstore 9, 2) := by decide +kernel
theorem dX4_gcd_31 : decode cX4_gcd 31 = .ok (.lload 6, 2) := by decide +kernel
theorem dX4_gcd_33 : decode cX4_gcd 33 = .ok (.lstore 4, 2) := by decide +kernel
theorem dX4_gcd_35 : decode cX4_gcd 35 = .ok (.lload 9, 2) := by decide +kernel
theorem dX4_gcd_37 : decode cX4_gcd 37 = .ok (.lstore 6, 2) := by decide +kernel
theorem dX4_gcd_39 : decode cX4_gcd 39 = .ok (.iinc 8 1, 3) := by decide +kernel
theorem dX4_gcd_42 : decode cX4_gcd 42 = .ok (.goto (-33), 3) := by decide +kernel
theorem dX4_gcd_45 : decode cX4_gcd 45 = .ok (.lload 4, 2) := by decide +kernel
theorem dX4_gcd_47 : decode cX4_gcd 47 = .ok (.lconst 0, 1) := by decide +kernel
theorem dX4_gcd_48 : decode cX4_gcd 48 = .ok (.lcmp, 1) := by decide +kernel
theorem dX4_gcd_49 : decode cX4_gcd 49 = .ok (.ifCond .ne 7, 3) := by decide +kernel
theorem dX4_gcd_52 : decode cX4_gcd 52 = .ok (.lconst 1, 1) := by decide +kernel
theorem dX4_gcd_53 : decode cX4_gcd 53 = .ok (.goto 5, 3) := by decide +kernel
theorem dX4_gcd_56 : decode cX4_gcd 56 = .ok (.lload 4, 2) := by decide +kernel
theorem dX4_gcd_58 : decode cX4_gcd 58 = .ok (.lreturn, 1) := by decide +kernel
theorem dX4_lcm_0 : decode cX4_lcm 0 = .ok (.lload_n 0, 1) := by decide +kernel
theorem dX4_lcm_1 : decode cX4_lcm 1 = .ok (.lload_n 0, 1) := by decide +kernel
theorem dX4_lcm_2 : decode cX4_lcm 2 = .ok (.lload_n 2, 1) := by decide +kernel
theorem dX4_lcm_3 : decode cX4_lcm 3 = .ok (.invokestatic 34, 3) := by decide +kernel
theorem dX4_lcm_6 : decode cX4_lcm 6 = .ok (.ldiv, 1) := by decide +kernel
theorem dX4_lcm_7 : decode cX4_lcm 7 = .ok (.lload_n 2, 1) := by decide +kernel
theorem dX4_lcm_8 : decode cX4_lcm 8 = .ok (.lmul, 1) := by decide +kernel
theorem dX4_lcm_9 : decode cX4_lcm 9 = .ok (.lreturn, 1) := by decide +kernel
theorem dX4_excess_0 : decode cX4_excess 0 = .ok (.aload_n 0, 1) := by decide +kernel
theorem dX4_excess_1 : decode cX4_excess 1 = .ok (.getfield 7, 3) := by decide +kernel
theorem dX4_excess_4 : decode cX4_excess 4 = .ok (.ldc2_w 38, 3) := by decide +kernel
theorem dX4_excess_7 : decode cX4_excess 7 = .ok (.lcmp, 1) := by decide +kernel
theorem dX4_excess_8 : decode cX4_excess 8 = .ok (.ifCond .le 6, 3) := by decide +kernel
theorem dX4_excess_11 : decode cX4_excess 11 = .ok (.bipush 6, 2) := by decide +kernel
theorem dX4_excess_13 : decode cX4_excess 13 = .ok (.ireturn, 1) := by decide +kernel
theorem dX4_excess_14 : decode cX4_excess 14 = .ok (.aload_n 0, 1) := by decide +kernel
theorem dX4_excess_15 : decode cX4_excess 15 = .ok (.getfield 13, 3) := by decide +kernel
theorem dX4_excess_18 : decode cX4_excess 18 = .ok (.ldc2_w 40, 3) := by decide +kernel
theorem dX4_excess_21 : decode cX4_excess 21 = .ok (.lcmp, 1) := by decide +kernel
theorem dX4_excess_22 : decode cX4_excess 22 = .ok (.ifCond .le 6, 3) := by decide +kernel
theorem dX4_excess_25 : decode cX4_excess 25 = .ok (.bipush 7, 2) := by decide +kernel
theorem dX4_excess_27 : decode cX4_excess 27 = .ok (.ireturn, 1) := by decide +kernel
theorem dX4_excess_28 : decode cX4_excess 28 = .ok (.aload_n 0, 1) := by decide +kernel
theorem dX4_excess_29 : decode cX4_excess 29 = .ok (.getfield 16, 3) := by decide +kernel
theorem dX4_excess_32 : decode cX4_excess 32 = .ok (.ldc2_w 42, 3) := by decide +kernel
theorem dX4_excess_35 : decode cX4_excess 35 = .ok (.lcmp, 1) := by decide +kernel
theorem dX4_excess_36 : decode cX4_excess 36 = .ok (.ifCond .le 6, 3) := by decide +kernel
theorem dX4_excess_39 : decode cX4_excess 39 = .ok (.bipush 8, 2) := by decide +kernel
theorem dX4_excess_41 : decode cX4_excess 41 = .ok (.ireturn, 1) := by decide +kernel
theorem dX4_excess_42 : decode cX4_excess 42 = .ok (.aload_n 0, 1) := by decide +kernel
theorem dX4_excess_43 : decode cX4_excess 43 = .ok (.getfield 19, 3) := by decide +kernel
theorem dX4_excess_46 : decode cX4_excess 46 = .ok (.ldc2_w 44, 3) := by decide +kernel
theorem dX4_excess_49 : decode cX4_excess 49 = .ok (.lcmp, 1) := by decide +kernel
theorem dX4_excess_50 : decode cX4_excess 50 = .ok (.ifCond .le 6, 3) := by decide +kernel
theorem dX4_excess_53 : decode cX4_excess 53 = .ok (.bipush 9, 2) := by decide +kernel
theorem dX4_excess_55 : decode cX4_excess 55 = .ok (.ireturn, 1) := by decide +kernel
theorem dX4_excess_56 : decode cX4_excess 56 = .ok (.aload_n 0, 1) := by decide +kernel
theorem dX4_excess_57 : decode cX4_excess 57 = .ok (.getfield 22, 3) := by decide +kernel
theorem dX4_excess_60 : decode cX4_excess 60 = .ok (.bipush 60, 2) := by decide +kernel
theorem dX4_excess_62 : decode cX4_excess 62 = .ok (.if_icmp .le 8, 3) := by decide +kernel
theorem dX4_excess_65 : decode cX4_excess 65 = .ok (.bipush 10, 2) := by decide +kernel
theorem dX4_excess_67 : decode cX4_excess 67 = .ok (.goto 4, 3) := by decide +kernel
theorem dX4_excess_70 : decode cX4_excess 70 = .ok (.iconst 0, 1) := by decide +kernel
theorem dX4_excess_71 : decode cX4_excess 71 = .ok (.ireturn, 1) := by decide +kernel
theorem dX4_measure_0 : decode cX4_measure 0 = .ok (.iconst 0, 1) := by decide +kernel
theorem dX4_measure_1 : decode cX4_measure 1 = .ok (.istore_n 1, 1) := by decide +kernel
theorem dX4_measure_2 : decode cX4_measure 2 = .ok (.iload_n 1, 1) := by decide +kernel
theorem dX4_measure_3 : decode cX4_measure 3 = .ok (.aload_n 0, 1) := by decide +kernel
theorem dX4_measure_4 : decode cX4_measure 4 = .ok (.getfield 30, 3) := by decide +kernel
theorem dX4_measure_7 : decode cX4_measure 7 = .ok (.arraylength, 1) := by decide +kernel
theorem dX4_measure_8 : decode cX4_measure 8 = .ok (.if_icmp .ge 31, 3) := by decide +kernel
theorem dX4_measure_11 : decode cX4_measure 11 = .ok (.aload_n 0, 1) := by decide +kernel
theorem dX4_measure_12 : decode cX4_measure 12 = .ok (.aload_n 0, 1) := by decide +kernel
theorem dX4_measure_13 : decode cX4_measure 13 = .ok (.getfield 22, 3) := by decide +kernel
theorem dX4_measure_16 : decode cX4_measure 16 = .ok (.aload_n 0, 1) := by decide +kernel
theorem dX4_measure_17 : decode cX4_measure 17 = .ok (.getfield 30, 3) := by decide +kernel
theorem dX4_measure_20 : decode cX4_measure 20 = .ok (.iload_n 1, 1) := by decide +kernel
theorem dX4_measure_21 : decode cX4_measure 21 = .ok (.aaload, 1) := by decide +kernel
theorem dX4_measure_22 : decode cX4_measure 22 = .ok (.getfield 22, 3) := by decide +kernel
theorem dX4_measure_25 : decode cX4_measure 25 = .ok (.iconst 1, 1) := by decide +kernel
theorem dX4_measure_26 : decode cX4_measure 26 = .ok (.iadd, 1) := by decide +kernel
theorem dX4_measure_27 : decode cX4_measure 27 = .ok (.invokestatic 46, 3) := by decide +kernel
theorem dX4_measure_30 : decode cX4_measure 30 = .ok (.putfield 22, 3) := by decide +kernel
theorem dX4_measure_33 : decode cX4_measure 33 = .ok (.iinc 1 1, 3) := by decide +kernel
theorem dX4_measure_36 : decode cX4_measure 36 = .ok (.goto (-34), 3) := by decide +kernel
theorem dX4_measure_39 : decode cX4_measure 39 = .ok (.aload_n 0, 1) := by decide +kernel
theorem dX4_measure_40 : decode cX4_measure 40 = .ok (.getfield 26, 3) := by decide +kernel
theorem dX4_measure_43 : decode cX4_measure 43 = .ok (.getfield 52, 3) := by decide +kernel
theorem dX4_measure_46 : decode cX4_measure 46 = .ok (.tableswitch 294 1 21 #[98, 98, 109, 120, 179, 204, 294, 154, 294, 294, 294, 179, 179, 294, 294, 154, 154, 294, 256, 275, 256], 98) := by decide +kernel
theorem dX4_measure_144 : decode cX4_measure 144 = .ok (.aload_n 0, 1) := by decide +kernel
theorem dX4_measure_145 : decode cX4_measure 145 = .ok (.lconst 1, 1) := by decide +kernel
theorem dX4_measure_146 : decode cX4_measure 146 = .ok (.lconst 1, 1) := by decide +kernel
theorem dX4_measure_147 : decode cX4_measure 147 = .ok (.lconst 1, 1) := by decide +kernel
theorem dX4_measure_148 : decode cX4_measure 148 = .ok (.lconst 1, 1) := by decide +kernel
theorem dX4_measure_149 : decode cX4_measure 149 = .ok (.invokevirtual 57, 3) := by decide +kernel
theorem dX4_measure_152 : decode cX4_measure 152 = .ok (.goto 198, 3) := by decide +kernel
theorem dX4_measure_155 : decode cX4_measure 155 = .ok (.aload_n 0, 1) := by decide +kernel
theorem dX4_measure_156 : decode cX4_measure 156 = .ok (.lconst 1, 1) := by decide +kernel
theorem dX4_measure_157 : decode cX4_measure 157 = .ok (.lconst 0, 1) := by decide +kernel
theorem dX4_measure_158 : decode cX4_measure 158 = .ok (.lconst 1, 1) := by decide +kernel
theorem dX4_measure_159 : decode cX4_measure 159 = .ok (.lconst 1, 1) := by decide +kernel
theorem dX4_measure_160 : decode cX4_measure 160 = .ok (.invokevirtual 57, 3) := by decide +kernel
theorem dX4_measure_163 : decode cX4_measure 163 = .ok (.goto 187, 3) := by decide +kernel
theorem dX4_measure_166 : decode cX4_measure 166 = .ok (.aload_n 0, 1) := by decide +kernel
theorem dX4_measure_167 : decode cX4_measure 167 = .ok (.aload_n 0, 1) := by decide +kernel
theorem dX4_measure_168 : decode cX4_measure 168 = .ok (.getfield 26, 3) := by decide +kernel
theorem dX4_measure_171 : decode cX4_measure 171 = .ok (.getfield 61, 3) := by decide +kernel
theorem dX4_measure_174 : decode cX4_measure 174 = .ok (.i2l, 1) := by decide +kernel
theorem dX4_measure_175 : decode cX4_measure 175 = .ok (.aload_n 0, 1) := by decide +kernel
theorem dX4_measure_176 : decode cX4_measure 176 = .ok (.invokevirtual 64, 3) := by decide +kernel
theorem dX4_measure_179 : decode cX4_measure 179 = .ok (.lmul, 1) := by decide +kernel
theorem dX4_measure_180 : decode cX4_measure 180 = .ok (.aload_n 0, 1) := by decide +kernel
theorem dX4_measure_181 : decode cX4_measure 181 = .ok (.invokevirtual 68, 3) := by decide +kernel
theorem dX4_measure_184 : decode cX4_measure 184 = .ok (.aload_n 0, 1) := by decide +kernel
theorem dX4_measure_185 : decode cX4_measure 185 = .ok (.invokevirtual 71, 3) := by decide +kernel
theorem dX4_measure_188 : decode cX4_measure 188 = .ok (.aload_n 0, 1) := by decide +kernel
theorem dX4_measure_189 : decode cX4_measure 189 = .ok (.invokevirtual 74, 3) := by decide +kernel
theorem dX4_measure_192 : decode cX4_measure 192 = .ok (.lconst 1, 1) := by decide +kernel
theorem dX4_measure_193 : decode cX4_measure 193 = .ok (.ladd, 1) := by decide +kernel
theorem dX4_measure_194 : decode cX4_measure 194 = .ok (.invokevirtual 57, 3) := by decide +kernel
theorem dX4_measure_197 : decode cX4_measure 197 = .ok (.goto 153, 3) := by decide +kernel
theorem dX4_measure_200 : decode cX4_measure 200 = .ok (.aload_n 0, 1) := by decide +kernel
theorem dX4_measure_201 : decode cX4_measure 201 = .ok (.aload_n 0, 1) := by decide +kernel
theorem dX4_measure_202 : decode cX4_measure 202 = .ok (.invokevirtual 64, 3) := by decide +kernel
theorem dX4_measure_205 : decode cX4_measure 205 = .ok (.aload_n 0, 1) := by decide +kernel
theorem dX4_measure_206 : decode cX4_measure 206 = .ok (.invokevirtual 68, 3) := by decide +kernel
theorem dX4_measure_209 : decode cX4_measure 209 = .ok (.aload_n 0, 1) := by decide +kernel
theorem dX4_measure_210 : decode cX4_measure 210 = .ok (.invokevirtual 71, 3) := by decide +kernel
theorem dX4_measure_213 : decode cX4_measure 213 = .ok (.aload_n 0, 1) := by decide +kernel
theorem dX4_measure_214 : decode cX4_measure 214 = .ok (.invokevirtual 74, 3) := by decide +kernel
theorem dX4_measure_217 : decode cX4_measure 217 = .ok (.lconst 1, 1) := by decide +kernel
theorem dX4_measure_218 : decode cX4_measure 218 = .ok (.ladd, 1) := by decide +kernel
theorem dX4_measure_219 : decode cX4_measure 219 = .ok (.invokevirtual 57, 3) := by decide +kernel
theorem dX4_measure_222 : decode cX4_measure 222 = .ok (.goto 128, 3) := by decide +kernel
theorem dX4_measure_225 : decode cX4_measure 225 = .ok (.aload_n 0, 1) := by decide +kernel
theorem dX4_measure_226 : decode cX4_measure 226 = .ok (.aload_n 0, 1) := by decide +kernel
theorem dX4_measure_227 : decode cX4_measure 227 = .ok (.invokevirtual 64, 3) := by decide +kernel
theorem dX4_measure_230 : decode cX4_measure 230 = .ok (.aload_n 0, 1) := by decide +kernel
theorem dX4_measure_231 : decode cX4_measure 231 = .ok (.invokevirtual 77, 3) := by decide +kernel
theorem dX4_measure_234 : decode cX4_measure 234 = .ok (.aload_n 0, 1) := by decide +kernel
theorem dX4_measure_235 : decode cX4_measure 235 = .ok (.invokevirtual 71, 3) := by decide +kernel
theorem dX4_measure_238 : decode cX4_measure 238 = .ok (.aload_n 0, 1) := by decide +kernel
theorem dX4_measure_239 : decode cX4_measure 239 = .ok (.invokevirtual 80, 3) := by decide +kernel
theorem dX4_measure_242 : decode cX4_measure 242 = .ok (.lconst 1, 1) := by decide +kernel
theorem dX4_measure_243 : decode cX4_measure 243 = .ok (.ladd, 1) := by decide +kernel
theorem dX4_measure_244 : decode cX4_measure 244 = .ok (.invokevirtual 57, 3) := by decide +kernel
theorem dX4_measure_247 : decode cX4_measure 247 = .ok (.goto 103, 3) := by decide +kernel
theorem dX4_measure_250 : decode cX4_measure 250 = .ok (.aload_n 0, 1) := by decide +kernel
theorem dX4_measure_251 : decode cX4_measure 251 = .ok (.aload_n 0, 1) := by decide +kernel
theorem dX4_measure_252 : decode cX4_measure 252 = .ok (.getfield 26, 3) := by decide +kernel
theorem dX4_measure_255 : decode cX4_measure 255 = .ok (.getfield 83, 3) := by decide +kernel
theorem dX4_measure_258 : decode cX4_measure 258 = .ok (.i2l, 1) := by decide +kernel
theorem dX4_measure_259 : decode cX4_measure 259 = .ok (.aload_n 0, 1) := by decide +kernel
theorem dX4_measure_260 : decode cX4_measure 260 = .ok (.invokevirtual 64, 3) := by decide +kernel
theorem dX4_measure_263 : decode cX4_measure 263 = .ok (.lmul, 1) := by decide +kernel
theorem dX4_measure_264 : decode cX4_measure 264 = .ok (.aload_n 0, 1) := by decide +kernel
theorem dX4_measure_265 : decode cX4_measure 265 = .ok (.getfield 26, 3) := by decide +kernel
theorem dX4_measure_268 : decode cX4_measure 268 = .ok (.getfield 83, 3) := by decide +kernel
theorem dX4_measure_271 : decode cX4_measure 271 = .ok (.i2l, 1) := by decide +kernel
theorem dX4_measure_272 : decode cX4_measure 272 = .ok (.aload_n 0, 1) := by decide +kernel
theorem dX4_measure_273 : decode cX4_measure 273 = .ok (.invokevirtual 77, 3) := by decide +kernel
theorem dX4_measure_276 : decode cX4_measure 276 = .ok (.lmul, 1) := by decide +kernel
theorem dX4_measure_277 : decode cX4_measure 277 = .ok (.aload_n 0, 1) := by decide +kernel
theorem dX4_measure_278 : decode cX4_measure 278 = .ok (.invokevirtual 71, 3) := by decide +kernel
theorem dX4_measure_281 : decode cX4_measure 281 = .ok (.aload_n 0, 1) := by decide +kernel
theorem dX4_measure_282 : decode cX4_measure 282 = .ok (.getfield 26, 3) := by decide +kernel
theorem dX4_measure_285 : decode cX4_measure 285 = .ok (.getfield 83, 3) := by decide +kernel
theorem dX4_measure_288 : decode cX4_measure 288 = .ok (.i2l, 1) := by decide +kernel
theorem dX4_measure_289 : decode cX4_measure 289 = .ok (.aload_n 0, 1) := by decide +kernel
theorem dX4_measure_290 : decode cX4_measure 290 = .ok (.invokevirtual 80, 3) := by decide +kernel
theorem dX4_measure_293 : decode cX4_measure 293 = .ok (.lmul, 1) := by decide +kernel
theorem dX4_measure_294 : decode cX4_measure 294 = .ok (.lconst 1, 1) := by decide +kernel
theorem dX4_measure_295 : decode cX4_measure 295 = .ok (.ladd, 1) := by decide +kernel
theorem dX4_measure_296 : decode cX4_measure 296 = .ok (.invokevirtual 57, 3) := by decide +kernel
theorem dX4_measure_299 : decode cX4_measure 299 = .ok (.goto 51, 3) := by decide +kernel
theorem dX4_measure_302 : decode cX4_measure 302 = .ok (.aload_n 0, 1) := by decide +kernel
theorem dX4_measure_303 : decode cX4_measure 303 = .ok (.aload_n 0, 1) := by decide +kernel
