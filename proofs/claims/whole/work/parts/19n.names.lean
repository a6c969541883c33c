abbrev cX12_node : ByteArray := prog_14_method_1_code
def yX12_node : MethodName := ⟨RX12, "node", "(II)I"⟩
abbrev cX12_append : ByteArray := prog_14_method_2_code
def yX12_append : MethodName := ⟨RX12, "append", "(II)V"⟩
abbrev cX12_fail : ByteArray := prog_14_method_3_code
def yX12_fail : MethodName := ⟨RX12, "fail", "(II)V"⟩
abbrev cX12_byteAt : ByteArray := prog_14_method_4_code
def yX12_byteAt : MethodName := ⟨RX12, "byteAt", "(I)I"⟩
abbrev cX12_isLow : ByteArray := prog_14_method_5_code
def yX12_isLow : MethodName := ⟨RX12, "isLow", "(I)Z"⟩
abbrev cX12_isDigit : ByteArray := prog_14_method_6_code
def yX12_isDigit : MethodName := ⟨RX12, "isDigit", "(I)Z"⟩
abbrev cX12_isOp : ByteArray := prog_14_method_7_code
def yX12_isOp : MethodName := ⟨RX12, "isOp", "(I)Z"⟩
abbrev cX12_isSignByte : ByteArray := prog_14_method_8_code
def yX12_isSignByte : MethodName := ⟨RX12, "isSignByte", "(I)Z"⟩
abbrev cX12_look : ByteArray := prog_14_method_9_code
def yX12_look : MethodName := ⟨RX12, "look", "(I)V"⟩
abbrev cX12_lookName : ByteArray := prog_14_method_10_code
def yX12_lookName : MethodName := ⟨RX12, "lookName", "()V"⟩
abbrev cX12_lookNumber : ByteArray := prog_14_method_11_code
def yX12_lookNumber : MethodName := ⟨RX12, "lookNumber", "()V"⟩
abbrev cX12_lookText : ByteArray := prog_14_method_12_code
def yX12_lookText : MethodName := ⟨RX12, "lookText", "()V"⟩
abbrev cX12_advance : ByteArray := prog_14_method_13_code
def yX12_advance : MethodName := ⟨RX12, "advance", "()V"⟩
abbrev cX12_isSign : ByteArray := prog_14_method_14_code
def yX12_isSign : MethodName := ⟨RX12, "isSign", "(I)Z"⟩
abbrev cX12_isOpToken : ByteArray := prog_14_method_15_code
def yX12_isOpToken : MethodName := ⟨RX12, "isOpToken", "()Z"⟩
abbrev cX12_functionHere : ByteArray := prog_14_method_16_code
def yX12_functionHere : MethodName := ⟨RX12, "functionHere", "()I"⟩
abbrev cX12_paramHere : ByteArray := prog_14_method_17_code
def yX12_paramHere : MethodName := ⟨RX12, "paramHere", "()I"⟩
abbrev cX12_definitionHere : ByteArray := prog_14_method_18_code
def yX12_definitionHere : MethodName := ⟨RX12, "definitionHere", "()I"⟩
abbrev cX12_begin : ByteArray := prog_14_method_19_code
def yX12_begin : MethodName := ⟨RX12, "begin", "(III)V"⟩
abbrev cX12_finish : ByteArray := prog_14_method_20_code
def yX12_finish : MethodName := ⟨RX12, "finish", "(I)V"⟩
abbrev cX12_readExp : ByteArray := prog_14_method_21_code
def yX12_readExp : MethodName := ⟨RX12, "readExp", "()V"⟩
abbrev cX12_readRow : ByteArray := prog_14_method_22_code
def yX12_readRow : MethodName := ⟨RX12, "readRow", "(IIII)V"⟩
abbrev cX12_readSum : ByteArray := prog_14_method_23_code
def yX12_readSum : MethodName := ⟨RX12, "readSum", "(I)V"⟩
abbrev cX12_readApp : ByteArray := prog_14_method_24_code
def yX12_readApp : MethodName := ⟨RX12, "readApp", "(I)V"⟩
abbrev cX12_all : ByteArray := prog_14_method_25_code
def yX12_all : MethodName := ⟨RX12, "all", "(I)I"⟩
abbrev cX12_isOpen : ByteArray := prog_14_method_26_code
def yX12_isOpen : MethodName := ⟨RX12, "isOpen", "(I)Z"⟩
abbrev cX12_readArg : ByteArray := prog_14_method_27_code
def yX12_readArg : MethodName := ⟨RX12, "readArg", "(I)V"⟩
abbrev cX12_readWants : ByteArray := prog_14_method_28_code
def yX12_readWants : MethodName := ⟨RX12, "readWants", "(I)V"⟩
abbrev cX12_common : ByteArray := prog_14_method_29_code
def yX12_common : MethodName := ⟨RX12, "common", "(II)I"⟩
abbrev cX12_readFraction : ByteArray := prog_14_method_30_code
def yX12_readFraction : MethodName := ⟨RX12, "readFraction", "(I)V"⟩
abbrev cX12_readCount : ByteArray := prog_14_method_31_code
def yX12_readCount : MethodName := ⟨RX12, "readCount", "(I)V"⟩
abbrev cX12_readFun : ByteArray := prog_14_method_32_code
def yX12_readFun : MethodName := ⟨RX12, "readFun", "(I)V"⟩
abbrev cX12_readPieces : ByteArray := prog_14_method_33_code
def yX12_readPieces : MethodName := ⟨RX12, "readPieces", "(I)V"⟩
abbrev cX12_readPiece : ByteArray := prog_14_method_34_code
def yX12_readPiece : MethodName := ⟨RX12, "readPiece", "(I)V"⟩
abbrev cX12_skip : ByteArray := prog_14_method_35_code
def yX12_skip : MethodName := ⟨RX12, "skip", "()V"⟩
abbrev cX12_readSeq : ByteArray := prog_14_method_36_code
def yX12_readSeq : MethodName := ⟨RX12, "readSeq", "(I)V"⟩
abbrev cX12_plainNumber : ByteArray := prog_14_method_37_code
def yX12_plainNumber : MethodName := ⟨RX12, "plainNumber", "()I"⟩
abbrev cX12_numberIn : ByteArray := prog_14_method_38_code
def yX12_numberIn : MethodName := ⟨RX12, "numberIn", "(II)I"⟩
abbrev cX12_readStep : ByteArray := prog_14_method_39_code
def yX12_readStep : MethodName := ⟨RX12, "readStep", "(I)V"⟩
abbrev cX12_readChange : ByteArray := prog_14_method_40_code
def yX12_readChange : MethodName := ⟨RX12, "readChange", "(II)I"⟩
abbrev cX12_need : ByteArray := prog_14_method_41_code
def yX12_need : MethodName := ⟨RX12, "need", "(I)V"⟩
abbrev cX12_spread : ByteArray := prog_14_method_42_code
def yX12_spread : MethodName := ⟨RX12, "spread", "(I)V"⟩
abbrev cX12_readPart : ByteArray := prog_14_method_43_code
def yX12_readPart : MethodName := ⟨RX12, "readPart", "(I)V"⟩
abbrev cX12_partNumber : ByteArray := prog_14_method_44_code
def yX12_partNumber : MethodName := ⟨RX12, "partNumber", "(I)V"⟩
abbrev cX12_endPart : ByteArray := prog_14_method_45_code
def yX12_endPart : MethodName := ⟨RX12, "endPart", "(II)V"⟩
abbrev cX12_task : ByteArray := prog_14_method_46_code
def yX12_task : MethodName := ⟨RX12, "task", "(II)V"⟩
abbrev cX12_push : ByteArray := prog_14_method_47_code
def yX12_push : MethodName := ⟨RX12, "push", "(I)V"⟩
abbrev cX12_pop : ByteArray := prog_14_method_48_code
def yX12_pop : MethodName := ⟨RX12, "pop", "()I"⟩
abbrev cX12_spot : ByteArray := prog_14_method_49_code
def yX12_spot : MethodName := ⟨RX12, "spot", "(I)I"⟩
abbrev cX12_counts : ByteArray := prog_14_method_50_code
def yX12_counts : MethodName := ⟨RX12, "counts", "(II)V"⟩
abbrev cX12_commonOf : ByteArray := prog_14_method_51_code
def yX12_commonOf : MethodName := ⟨RX12, "commonOf", "(JJ)J"⟩
abbrev cX12_least : ByteArray := prog_14_method_52_code
def yX12_least : MethodName := ⟨RX12, "least", "(JJ)J"⟩
abbrev cX12_times : ByteArray := prog_14_method_53_code
def yX12_times : MethodName := ⟨RX12, "times", "(JJ)J"⟩
abbrev cX12_up : ByteArray := prog_14_method_54_code
def yX12_up : MethodName := ⟨RX12, "up", "(JJ)J"⟩
abbrev cX12_gather : ByteArray := prog_14_method_55_code
def yX12_gather : MethodName := ⟨RX12, "gather", "(I)V"⟩
abbrev cX12_addKid : ByteArray := prog_14_method_56_code
def yX12_addKid : MethodName := ⟨RX12, "addKid", "(III)V"⟩
abbrev cX12_opens : ByteArray := prog_14_method_57_code
def yX12_opens : MethodName := ⟨RX12, "opens", "(IIIII)V"⟩
abbrev cX12_made : ByteArray := prog_14_method_58_code
def yX12_made : MethodName := ⟨RX12, "made", "(I)V"⟩
abbrev cX12_bounds : ByteArray := prog_14_method_59_code
def yX12_bounds : MethodName := ⟨RX12, "bounds", "(JJJJ)V"⟩
abbrev cX12_weights : ByteArray := prog_14_method_60_code
def yX12_weights : MethodName := ⟨RX12, "weights", "(I)J"⟩
abbrev cX12_boundsOf : ByteArray := prog_14_method_61_code
def yX12_boundsOf : MethodName := ⟨RX12, "boundsOf", "(I)V"⟩
abbrev cX12_ofTwo : ByteArray := prog_14_method_62_code
def yX12_ofTwo : MethodName := ⟨RX12, "ofTwo", "(I)V"⟩
abbrev cX12_spanBelow : ByteArray := prog_14_method_63_code
def yX12_spanBelow : MethodName := ⟨RX12, "spanBelow", "(I)I"⟩
abbrev cX12_spanAbove : ByteArray := prog_14_method_64_code
def yX12_spanAbove : MethodName := ⟨RX12, "spanAbove", "(I)I"⟩
abbrev cX12_one : ByteArray := prog_14_method_65_code
def yX12_one : MethodName := ⟨RX12, "one", "(IIIIII)V"⟩
abbrev cX12_two : ByteArray := prog_14_method_66_code
def yX12_two : MethodName := ⟨RX12, "two", "(IIIIII)V"⟩
abbrev cX12_leaf : ByteArray := prog_14_method_67_code
def yX12_leaf : MethodName := ⟨RX12, "leaf", "(IIII)V"⟩
abbrev cX12_makes : ByteArray := prog_14_method_68_code
def yX12_makes : MethodName := ⟨RX12, "makes", "(I)I"⟩
abbrev cX12_does : ByteArray := prog_14_method_69_code
def yX12_does : MethodName := ⟨RX12, "does", "(II)V"⟩
abbrev cX12_isFun : ByteArray := prog_14_method_70_code
def yX12_isFun : MethodName := ⟨RX12, "isFun", "(I)Z"⟩
abbrev cX12_make : ByteArray := prog_14_method_71_code
def yX12_make : MethodName := ⟨RX12, "make", "(I)V"⟩
abbrev cX12_terms : ByteArray := prog_14_method_72_code
def yX12_terms : MethodName := ⟨RX12, "terms", "(I)V"⟩
abbrev cX12_row : ByteArray := prog_14_method_73_code
def yX12_row : MethodName := ⟨RX12, "row", "(I)V"⟩
abbrev cX12_changeOf : ByteArray := prog_14_method_74_code
def yX12_changeOf : MethodName := ⟨RX12, "changeOf", "(I)V"⟩
abbrev cX12_arguments : ByteArray := prog_14_method_75_code
def yX12_arguments : MethodName := ⟨RX12, "arguments", "(I)V"⟩
abbrev cX12_apply : ByteArray := prog_14_method_76_code
def yX12_apply : MethodName := ⟨RX12, "apply", "(I)V"⟩
abbrev cX12_function : ByteArray := prog_14_method_77_code
def yX12_function : MethodName := ⟨RX12, "function", "(I)V"⟩
abbrev cX12_ofFunction : ByteArray := prog_14_method_78_code
def yX12_ofFunction : MethodName := ⟨RX12, "ofFunction", "(I)V"⟩
abbrev cX12_use : ByteArray := prog_14_method_79_code
def yX12_use : MethodName := ⟨RX12, "use", "(I)V"⟩
abbrev cX12_div : ByteArray := prog_14_method_80_code
def yX12_div : MethodName := ⟨RX12, "div", "(JJ)J"⟩
abbrev cX12_mod : ByteArray := prog_14_method_81_code
def yX12_mod : MethodName := ⟨RX12, "mod", "(JJ)J"⟩
abbrev cX12_call : ByteArray := prog_14_method_82_code
def yX12_call : MethodName := ⟨RX12, "call", "(IJ)V"⟩
abbrev cX12_callKid : ByteArray := prog_14_method_83_code
def yX12_callKid : MethodName := ⟨RX12, "callKid", "(IIJ)V"⟩
abbrev cX12_rowOf : ByteArray := prog_14_method_84_code
def yX12_rowOf : MethodName := ⟨RX12, "rowOf", "(IJ)V"⟩
abbrev cX12_emit : ByteArray := prog_14_method_85_code
def yX12_emit : MethodName := ⟨RX12, "emit", "(JJIIII)V"⟩
abbrev cX12_copy : ByteArray := prog_14_method_86_code
def yX12_copy : MethodName := ⟨RX12, "copy", "(II)V"⟩
abbrev cX12_sort : ByteArray := prog_14_method_87_code
def yX12_sort : MethodName := ⟨RX12, "sort", "(I)V"⟩
abbrev cX12_move : ByteArray := prog_14_method_88_code
def yX12_move : MethodName := ⟨RX12, "move", "(IJJ)V"⟩
abbrev cX12_clip : ByteArray := prog_14_method_89_code
def yX12_clip : MethodName := ⟨RX12, "clip", "(IJJ)V"⟩
abbrev cX12_step : ByteArray := prog_14_method_90_code
def yX12_step : MethodName := ⟨RX12, "step", "(I)V"⟩
abbrev cX12_grainOf : ByteArray := prog_14_method_91_code
def yX12_grainOf : MethodName := ⟨RX12, "grainOf", "(I)J"⟩
abbrev cX12_sequence : ByteArray := prog_14_method_92_code
def yX12_sequence : MethodName := ⟨RX12, "sequence", "(IIJ)Z"⟩
abbrev cX12_together : ByteArray := prog_14_method_93_code
def yX12_together : MethodName := ⟨RX12, "together", "(IIJ)Z"⟩
abbrev cX12_kidAt : ByteArray := prog_14_method_94_code
def yX12_kidAt : MethodName := ⟨RX12, "kidAt", "(IJ)I"⟩
abbrev cX12_turn : ByteArray := prog_14_method_95_code
def yX12_turn : MethodName := ⟨RX12, "turn", "(IIJ)Z"⟩
abbrev cX12_poly : ByteArray := prog_14_method_96_code
def yX12_poly : MethodName := ⟨RX12, "poly", "(IIJ)Z"⟩
abbrev cX12_spreads : ByteArray := prog_14_method_97_code
def yX12_spreads : MethodName := ⟨RX12, "spreads", "(IIJ)Z"⟩
abbrev cX12_rows : ByteArray := prog_14_method_98_code
def yX12_rows : MethodName := ⟨RX12, "rows", "(IIJ)Z"⟩
abbrev cX12_span : ByteArray := prog_14_method_99_code
def yX12_span : MethodName := ⟨RX12, "span", "(IIJ)V"⟩
abbrev cX12_shift : ByteArray := prog_14_method_100_code
def yX12_shift : MethodName := ⟨RX12, "shift", "(IJ)J"⟩
abbrev cX12_ply : ByteArray := prog_14_method_101_code
def yX12_ply : MethodName := ⟨RX12, "ply", "(II)V"⟩
abbrev cX12_windows : ByteArray := prog_14_method_102_code
def yX12_windows : MethodName := ⟨RX12, "windows", "(IIJ)Z"⟩
abbrev cX12_window : ByteArray := prog_14_method_103_code
def yX12_window : MethodName := ⟨RX12, "window", "(IIJZ)V"⟩
abbrev cX12_single : ByteArray := prog_14_method_104_code
def yX12_single : MethodName := ⟨RX12, "single", "(IIJ)Z"⟩
abbrev cX12_rotate : ByteArray := prog_14_method_105_code
def yX12_rotate : MethodName := ⟨RX12, "rotate", "(II)V"⟩
abbrev cX12_draw : ByteArray := prog_14_method_106_code
def yX12_draw : MethodName := ⟨RX12, "draw", "(IIJ)V"⟩
abbrev cX12_isLoud : ByteArray := prog_14_method_107_code
def yX12_isLoud : MethodName := ⟨RX12, "isLoud", "(II)Z"⟩
abbrev cX12_sounds : ByteArray := prog_14_method_108_code
def yX12_sounds : MethodName := ⟨RX12, "sounds", "(IIJ)Z"⟩
abbrev cX12_beginSounds : ByteArray := prog_14_method_109_code
def yX12_beginSounds : MethodName := ⟨RX12, "beginSounds", "(II)V"⟩
abbrev cX12_find : ByteArray := prog_14_method_110_code
def yX12_find : MethodName := ⟨RX12, "find", "(II)V"⟩
abbrev cX12_endSounds : ByteArray := prog_14_method_111_code
def yX12_endSounds : MethodName := ⟨RX12, "endSounds", "(II)V"⟩
abbrev cX12_takes : ByteArray := prog_14_method_112_code
def yX12_takes : MethodName := ⟨RX12, "takes", "(IZ)V"⟩
abbrev cX12_feed : ByteArray := prog_14_method_114_code
def yX12_feed : MethodName := ⟨RX12, "feed", "(IIIII)Z"⟩
abbrev cX12_end : ByteArray := prog_14_method_115_code
def yX12_end : MethodName := ⟨RX12, "end", "(I)Z"⟩
abbrev cX12_begins : ByteArray := prog_14_method_116_code
def yX12_begins : MethodName := ⟨RX12, "begins", "()V"⟩
abbrev cX12_over : ByteArray := prog_14_method_117_code
def yX12_over : MethodName := ⟨RX12, "over", "()I"⟩
abbrev cX12_head : ByteArray := prog_14_method_118_code
def yX12_head : MethodName := ⟨RX12, "head", "()V"⟩
abbrev cX12_line : ByteArray := prog_14_method_119_code
def yX12_line : MethodName := ⟨RX12, "line", "()V"⟩
abbrev cX12_read : ByteArray := prog_14_method_120_code
def yX12_read : MethodName := ⟨RX12, "read", "()I"⟩
abbrev cX12_hang : ByteArray := prog_14_method_121_code
def yX12_hang : MethodName := ⟨RX12, "hang", "(I)I"⟩
abbrev cX12_becomes : ByteArray := prog_14_method_122_code
def yX12_becomes : MethodName := ⟨RX12, "becomes", "(II)V"⟩
abbrev cX12_hush : ByteArray := prog_14_method_123_code
def yX12_hush : MethodName := ⟨RX12, "hush", "(I)Z"⟩
abbrev cX12_told : ByteArray := prog_14_method_124_code
def yX12_told : MethodName := ⟨RX12, "told", "(I)I"⟩
abbrev cX12_isTrack : ByteArray := prog_14_method_125_code
def yX12_isTrack : MethodName := ⟨RX12, "isTrack", "(I)Z"⟩
abbrev cX12_bound : ByteArray := prog_14_method_126_code
def yX12_bound : MethodName := ⟨RX12, "bound", "(II)I"⟩
abbrev cX12_ask : ByteArray := prog_14_method_127_code
def yX12_ask : MethodName := ⟨RX12, "ask", "(II)I"⟩
abbrev cX12_lowest : ByteArray := prog_14_method_128_code
def yX12_lowest : MethodName := ⟨RX12, "lowest", "(JJZ)I"⟩
abbrev cX12_letters : ByteArray := prog_14_method_129_code
def yX12_letters : MethodName := ⟨RX12, "letters", "(II)I"⟩
abbrev cX12_letterAt : ByteArray := prog_14_method_130_code
def yX12_letterAt : MethodName := ⟨RX12, "letterAt", "(III)I"⟩
abbrev cX12_event : ByteArray := prog_14_method_131_code
def yX12_event : MethodName := ⟨RX12, "event", "(II)I"⟩
abbrev cX12_letter : ByteArray := prog_14_method_132_code
def yX12_letter : MethodName := ⟨RX12, "letter", "(II)I"⟩
abbrev cX12_isSounding : ByteArray := prog_14_method_133_code
def yX12_isSounding : MethodName := ⟨RX12, "isSounding", "(I)Z"⟩
abbrev cX12_swaps : ByteArray := prog_14_method_134_code
def yX12_swaps : MethodName := ⟨RX12, "swaps", "()V"⟩
abbrev cX12_beat : ByteArray := prog_14_method_135_code
def yX12_beat : MethodName := ⟨RX12, "beat", "(II)I"⟩
abbrev cX12_arrange : ByteArray := prog_14_method_136_code
def yX12_arrange : MethodName := ⟨RX12, "arrange", "()V"⟩
abbrev cX12_hear : ByteArray := prog_14_method_137_code
def yX12_hear : MethodName := ⟨RX12, "hear", "(I)V"⟩
abbrev cX12_play : ByteArray := prog_14_method_138_code
def yX12_play : MethodName := ⟨RX12, "play", "(I)I"⟩
abbrev cX12_heard : ByteArray := prog_14_method_139_code
def yX12_heard : MethodName := ⟨RX12, "heard", "(II)I"⟩
abbrev cX12_heardLetter : ByteArray := prog_14_method_140_code
def yX12_heardLetter : MethodName := ⟨RX12, "heardLetter", "(II)I"⟩
abbrev cX12_jump : ByteArray := prog_14_method_141_code
def yX12_jump : MethodName := ⟨RX12, "jump", "(I)Z"⟩
abbrev cX12_mute : ByteArray := prog_14_method_142_code
def yX12_mute : MethodName := ⟨RX12, "mute", "(IZ)Z"⟩
abbrev cX12_solo : ByteArray := prog_14_method_143_code
def yX12_solo : MethodName := ⟨RX12, "solo", "(IZ)Z"⟩
abbrev cX12_seed : ByteArray := prog_14_method_144_code
def yX12_seed : MethodName := ⟨RX12, "seed", "(I)V"⟩
abbrev cX12_about : ByteArray := prog_14_method_145_code
def yX12_about : MethodName := ⟨RX12, "about", "(I)I"⟩

theorem dX12_node_0 : decode cX12_node 0 = .ok (.aload_n 0, 1) := by decide +kernel
theorem dX12_node_1 : decode cX12_node 1 = .ok (.getfield 1, 3) := by decide +kernel
theorem dX12_node_4 : decode cX12_node 4 = .ok (.istore_n 3, 1) := by decide +kernel
theorem dX12_node_5 : decode cX12_node 5 = .ok (.aload_n 0, 1) := by decide +kernel
theorem dX12_node_6 : decode cX12_node 6 = .ok (.dup, 1) := by decide +kernel
theorem dX12_node_7 : decode cX12_node 7 = .ok (.getfield 1, 3) := by decide +kernel
theorem dX12_node_10 : decode cX12_node 10 = .ok (.iconst 1, 1) := by decide +kernel
theorem dX12_node_11 : decode cX12_node 11 = .ok (.iadd, 1) := by decide +kernel
theorem dX12_node_12 : decode cX12_node 12 = .ok (.putfield 1, 3) := by decide +kernel
theorem dX12_node_15 : decode cX12_node 15 = .ok (.aload_n 0, 1) := by decide +kernel
theorem dX12_node_16 : decode cX12_node 16 = .ok (.getfield 7, 3) := by decide +kernel
theorem dX12_node_19 : decode cX12_node 19 = .ok (.iload_n 3, 1) := by decide +kernel
theorem dX12_node_20 : decode cX12_node 20 = .ok (.iload_n 1, 1) := by decide +kernel
theorem dX12_node_21 : decode cX12_node 21 = .ok (.iastore, 1) := by decide +kernel
theorem dX12_node_22 : decode cX12_node 22 = .ok (.aload_n 0, 1) := by decide +kernel
theorem dX12_node_23 : decode cX12_node 23 = .ok (.getfield 11, 3) := by decide +kernel
theorem dX12_node_26 : decode cX12_node 26 = .ok (.iload_n 3, 1) := by decide +kernel
theorem dX12_node_27 : decode cX12_node 27 = .ok (.iload_n 2, 1) := by decide +kernel
theorem dX12_node_28 : decode cX12_node 28 = .ok (.iastore, 1) := by decide +kernel
theorem dX12_node_29 : decode cX12_node 29 = .ok (.aload_n 0, 1) := by decide +kernel
theorem dX12_node_30 : decode cX12_node 30 = .ok (.getfield 14, 3) := by decide +kernel
theorem dX12_node_33 : decode cX12_node 33 = .ok (.iload_n 3, 1) := by decide +kernel
theorem dX12_node_34 : decode cX12_node 34 = .ok (.iconst 0, 1) := by decide +kernel
theorem dX12_node_35 : decode cX12_node 35 = .ok (.iastore, 1) := by decide +kernel
theorem dX12_node_36 : decode cX12_node 36 = .ok (.aload_n 0, 1) := by decide +kernel
theorem dX12_node_37 : decode cX12_node 37 = .ok (.getfield 17, 3) := by decide +kernel
theorem dX12_node_40 : decode cX12_node 40 = .ok (.iload_n 3, 1) := by decide +kernel
theorem dX12_node_41 : decode cX12_node 41 = .ok (.iconst 0, 1) := by decide +kernel
theorem dX12_node_42 : decode cX12_node 42 = .ok (.iastore, 1) := by decide +kernel
theorem dX12_node_43 : decode cX12_node 43 = .ok (.aload_n 0, 1) := by decide +kernel
theorem dX12_node_44 : decode cX12_node 44 = .ok (.getfield 20, 3) := by decide +kernel
theorem dX12_node_47 : decode cX12_node 47 = .ok (.iload_n 3, 1) := by decide +kernel
theorem dX12_node_48 : decode cX12_node 48 = .ok (.iconst 0, 1) := by decide +kernel
theorem dX12_node_49 : decode cX12_node 49 = .ok (.iastore, 1) := by decide +kernel
theorem dX12_node_50 : decode cX12_node 50 = .ok (.aload_n 0, 1) := by decide +kernel
theorem dX12_node_51 : decode cX12_node 51 = .ok (.getfield 23, 3) := by decide +kernel
theorem dX12_node_54 : decode cX12_node 54 = .ok (.iload_n 3, 1) := by decide +kernel
theorem dX12_node_55 : decode cX12_node 55 = .ok (.iconst 0, 1) := by decide +kernel
theorem dX12_node_56 : decode cX12_node 56 = .ok (.iastore, 1) := by decide +kernel
theorem dX12_node_57 : decode cX12_node 57 = .ok (.aload_n 0, 1) := by decide +kernel
theorem dX12_node_58 : decode cX12_node 58 = .ok (.getfield 26, 3) := by decide +kernel
theorem dX12_node_61 : decode cX12_node 61 = .ok (.iload_n 3, 1) := by decide +kernel
theorem dX12_node_62 : decode cX12_node 62 = .ok (.iconst 0, 1) := by decide +kernel
theorem dX12_node_63 : decode cX12_node 63 = .ok (.iastore, 1) := by decide +kernel
theorem dX12_node_64 : decode cX12_node 64 = .ok (.aload_n 0, 1) := by decide +kernel
theorem dX12_node_65 : decode cX12_node 65 = .ok (.getfield 29, 3) := by decide +kernel
theorem dX12_node_68 : decode cX12_node 68 = .ok (.iload_n 3, 1) := by decide +kernel
theorem dX12_node_69 : decode cX12_node 69 = .ok (.iconst (-1), 1) := by decide +kernel
theorem dX12_node_70 : decode cX12_node 70 = .ok (.iastore, 1) := by decide +kernel
theorem dX12_node_71 : decode cX12_node 71 = .ok (.aload_n 0, 1) := by decide +kernel
theorem dX12_node_72 : decode cX12_node 72 = .ok (.getfield 32, 3) := by decide +kernel
theorem dX12_node_75 : decode cX12_node 75 = .ok (.iload_n 3, 1) := by decide +kernel
theorem dX12_node_76 : decode cX12_node 76 = .ok (.iconst (-1), 1) := by decide +kernel
theorem dX12_node_77 : decode cX12_node 77 = .ok (.iastore, 1) := by decide +kernel
theorem dX12_node_78 : decode cX12_node 78 = .ok (.aload_n 0, 1) := by decide +kernel
theorem dX12_node_79 : decode cX12_node 79 = .ok (.getfield 35, 3) := by decide +kernel
theorem dX12_node_82 : decode cX12_node 82 = .ok (.iload_n 3, 1) := by decide +kernel
theorem dX12_node_83 : decode cX12_node 83 = .ok (.iconst (-1), 1) := by decide +kernel
theorem dX12_node_84 : decode cX12_node 84 = .ok (.iastore, 1) := by decide +kernel
theorem dX12_node_85 : decode cX12_node 85 = .ok (.aload_n 0, 1) := by decide +kernel
theorem dX12_node_86 : decode cX12_node 86 = .ok (.getfield 38, 3) := by decide +kernel
theorem dX12_node_89 : decode cX12_node 89 = .ok (.iload_n 3, 1) := by decide +kernel
theorem dX12_node_90 : decode cX12_node 90 = .ok (.iconst (-1), 1) := by decide +kernel
theorem dX12_node_91 : decode cX12_node 91 = .ok (.iastore, 1) := by decide +kernel
theorem dX12_node_92 : decode cX12_node 92 = .ok (.iload_n 3, 1) := by decide +kernel
theorem dX12_node_93 : decode cX12_node 93 = .ok (.ireturn, 1) := by decide +kernel
theorem dX12_append_0 : decode cX12_append 0 = .ok (.aload_n 0, 1) := by decide +kernel
theorem dX12_append_1 : decode cX12_append 1 = .ok (.getfield 29, 3) := by decide +kernel
theorem dX12_append_4 : decode cX12_append 4 = .ok (.iload_n 1, 1) := by decide +kernel
theorem dX12_append_5 : decode cX12_append 5 = .ok (.iaload, 1) := by decide +kernel
theorem dX12_append_6 : decode cX12_append 6 = .ok (.iconst (-1), 1) := by decide +kernel
theorem dX12_append_7 : decode cX12_append 7 = .ok (.if_icmp .ne 13, 3) := by decide +kernel
theorem dX12_append_10 : decode cX12_append 10 = .ok (.aload_n 0, 1) := by decide +kernel
theorem dX12_append_11 : decode cX12_append 11 = .ok (.getfield 29, 3) := by decide +kernel
theorem dX12_append_14 : decode cX12_append 14 = .ok (.iload_n 1, 1) := by decide +kernel
theorem dX12_append_15 : decode cX12_append 15 = .ok (.iload_n 2, 1) := by decide +kernel
theorem dX12_append_16 : decode cX12_append 16 = .ok (.iastore, 1) := by decide +kernel
theorem dX12_append_17 : decode cX12_append 17 = .ok (.goto 15, 3) := by decide +kernel
theorem dX12_append_20 : decode cX12_append 20 = .ok (.aload_n 0, 1) := by decide +kernel
theorem dX12_append_21 : decode cX12_append 21 = .ok (.getfield 35, 3) := by decide +kernel
theorem dX12_append_24 : decode cX12_append 24 = .ok (.aload_n 0, 1) := by decide +kernel
theorem dX12_append_25 : decode cX12_append 25 = .ok (.getfield 32, 3) := by decide +kernel
theorem dX12_append_28 : decode cX12_append 28 = .ok (.iload_n 1, 1) := by decide +kernel
theorem dX12_append_29 : decode cX12_append 29 = .ok (.iaload, 1) := by decide +kernel
theorem dX12_append_30 : decode cX12_append 30 = .ok (.iload_n 2, 1) := by decide +kernel
theorem dX12_append_31 : decode cX12_append 31 = .ok (.iastore, 1) := by decide +kernel
theorem dX12_append_32 : decode cX12_append 32 = .ok (.aload_n 0, 1) := by decide +kernel
theorem dX12_append_33 : decode cX12_append 33 = .ok (.getfield 32, 3) := by decide +kernel
theorem dX12_append_36 : decode cX12_append 36 = .ok (.iload_n 1, 1) := by decide +kernel
theorem dX12_append_37 : decode cX12_append 37 = .ok (.iload_n 2, 1) := by decide +kernel
theorem dX12_append_38 : decode cX12_append 38 = .ok (.iastore, 1) := by decide +kernel
theorem dX12_append_39 : decode cX12_append 39 = .ok (.aload_n 0, 1) := by decide +kernel
theorem dX12_append_40 : decode cX12_append 40 = .ok (.getfield 35, 3) := by decide +kernel
theorem dX12_append_43 : decode cX12_append 43 = .ok (.iload_n 2, 1) := by decide +kernel
theorem dX12_append_44 : decode cX12_append 44 = .ok (.iconst (-1), 1) := by decide +kernel
theorem dX12_append_45 : decode cX12_append 45 = .ok (.iastore, 1) := by decide +kernel
theorem dX12_append_46 : decode cX12_append 46 = .ok (.return_, 1) := by decide +kernel
theorem dX12_fail_0 : decode cX12_fail 0 = .ok (.aload_n 0, 1) := by decide +kernel
theorem dX12_fail_1 : decode cX12_fail 1 = .ok (.getfield 41, 3) := by decide +kernel
theorem dX12_fail_4 : decode cX12_fail 4 = .ok (.ifCond .eq 4, 3) := by decide +kernel
theorem dX12_fail_7 : decode cX12_fail 7 = .ok (.return_, 1) := by decide +kernel
theorem dX12_fail_8 : decode cX12_fail 8 = .ok (.aload_n 0, 1) := by decide +kernel
theorem dX12_fail_9 : decode cX12_fail 9 = .ok (.iload_n 1, 1) := by decide +kernel
theorem dX12_fail_10 : decode cX12_fail 10 = .ok (.putfield 41, 3) := by decide +kernel
theorem dX12_fail_13 : decode cX12_fail 13 = .ok (.aload_n 0, 1) := by decide +kernel
theorem dX12_fail_14 : decode cX12_fail 14 = .ok (.iload_n 2, 1) := by decide +kernel
theorem dX12_fail_15 : decode cX12_fail 15 = .ok (.putfield 44, 3) := by decide +kernel
theorem dX12_fail_18 : decode cX12_fail 18 = .ok (.return_, 1) := by decide +kernel
theorem dX12_byteAt_0 : decode cX12_byteAt 0 = .ok (.iload_n 1, 1) := by decide +kernel
theorem dX12_byteAt_1 : decode cX12_byteAt 1 = .ok (.ifCond .lt 20, 3) := by decide +kernel
theorem dX12_byteAt_4 : decode cX12_byteAt 4 = .ok (.iload_n 1, 1) := by decide +kernel
theorem dX12_byteAt_5 : decode cX12_byteAt 5 = .ok (.aload_n 0, 1) := by decide +kernel
theorem dX12_byteAt_6 : decode cX12_byteAt 6 = .ok (.getfield 47, 3) := by decide +kernel
theorem dX12_byteAt_9 : decode cX12_byteAt 9 = .ok (.if_icmp .ge 12, 3) := by decide +kernel
theorem dX12_byteAt_12 : decode cX12_byteAt 12 = .ok (.aload_n 0, 1) := by decide +kernel
theorem dX12_byteAt_13 : decode cX12_byteAt 13 = .ok (.getfield 50, 3) := by decide +kernel
theorem dX12_byteAt_16 : decode cX12_byteAt 16 = .ok (.iload_n 1, 1) := by decide +kernel
theorem dX12_byteAt_17 : decode cX12_byteAt 17 = .ok (.baload, 1) := by decide +kernel
theorem dX12_byteAt_18 : decode cX12_byteAt 18 = .ok (.goto 4, 3) := by decide +kernel
theorem dX12_byteAt_21 : decode cX12_byteAt 21 = .ok (.iconst 0, 1) := by decide +kernel
theorem dX12_byteAt_22 : decode cX12_byteAt 22 = .ok (.ireturn, 1) := by decide +kernel
theorem dX12_isLow_0 : decode cX12_isLow 0 = .ok (.iload_n 0, 1) := by decide +kernel
theorem dX12_isLow_1 : decode cX12_isLow 1 = .ok (.bipush 97, 2) := by decide +kernel
theorem dX12_isLow_3 : decode cX12_isLow 3 = .ok (.if_icmp .lt 13, 3) := by decide +kernel
theorem dX12_isLow_6 : decode cX12_isLow 6 = .ok (.iload_n 0, 1) := by decide +kernel
theorem dX12_isLow_7 : decode cX12_isLow 7 = .ok (.bipush 122, 2) := by decide +kernel
theorem dX12_isLow_9 : decode cX12_isLow 9 = .ok (.if_icmp .gt 7, 3) := by decide +kernel
theorem dX12_isLow_12 : decode cX12_isLow 12 = .ok (.iconst 1, 1) := by decide +kernel
theorem dX12_isLow_13 : decode cX12_isLow 13 = .ok (.goto 4, 3) := by decide +kernel
theorem dX12_isLow_16 : decode cX12_isLow 16 = .ok (.iconst 0, 1) := by decide +kernel
theorem dX12_isLow_17 : decode cX12_isLow 17 = .ok (.ireturn, 1) := by decide +kernel
theorem dX12_isDigit_0 : decode cX12_isDigit 0 = .ok (.iload_n 0, 1) := by decide +kernel
theorem dX12_isDigit_1 : decode cX12_isDigit 1 = .ok (.bipush 48, 2) := by decide +kernel
theorem dX12_isDigit_3 : decode cX12_isDigit 3 = .ok (.if_icmp .lt 13, 3) := by decide +kernel
theorem dX12_isDigit_6 : decode cX12_isDigit 6 = .ok (.iload_n 0, 1) := by decide +kernel
theorem dX12_isDigit_7 : decode cX12_isDigit 7 = .ok (.bipush 57, 2) := by decide +kernel
theorem dX12_isDigit_9 : decode cX12_isDigit 9 = .ok (.if_icmp .gt 7, 3) := by decide +kernel
theorem dX12_isDigit_12 : decode cX12_isDigit 12 = .ok (.iconst 1, 1) := by decide +kernel
theorem dX12_isDigit_13 : decode cX12_isDigit 13 = .ok (.goto 4, 3) := by decide +kernel
theorem dX12_isDigit_16 : decode cX12_isDigit 16 = .ok (.iconst 0, 1) := by decide +kernel
theorem dX12_isDigit_17 : decode cX12_isDigit 17 = .ok (.ireturn, 1) := by decide +kernel
theorem dX12_isOp_0 : decode cX12_isOp 0 = .ok (.iload_n 0, 1) := by decide +kernel
theorem dX12_isOp_1 : decode cX12_isOp 1 = .ok (.bipush 35, 2) := by decide +kernel
theorem dX12_isOp_3 : decode cX12_isOp 3 = .ok (.if_icmp .eq 21, 3) := by decide +kernel
theorem dX12_isOp_6 : decode cX12_isOp 6 = .ok (.iload_n 0, 1) := by decide +kernel
theorem dX12_isOp_7 : decode cX12_isOp 7 = .ok (.bipush 43, 2) := by decide +kernel
theorem dX12_isOp_9 : decode cX12_isOp 9 = .ok (.if_icmp .eq 15, 3) := by decide +kernel
theorem dX12_isOp_12 : decode cX12_isOp 12 = .ok (.iload_n 0, 1) := by decide +kernel
theorem dX12_isOp_13 : decode cX12_isOp 13 = .ok (.bipush 45, 2) := by decide +kernel
theorem dX12_isOp_15 : decode cX12_isOp 15 = .ok (.if_icmp .eq 9, 3) := by decide +kernel
theorem dX12_isOp_18 : decode cX12_isOp 18 = .ok (.iload_n 0, 1) := by decide +kernel
theorem dX12_isOp_19 : decode cX12_isOp 19 = .ok (.bipush 42, 2) := by decide +kernel
theorem dX12_isOp_21 : decode cX12_isOp 21 = .ok (.if_icmp .ne 7, 3) := by decide +kernel
theorem dX12_isOp_24 : decode cX12_isOp 24 = .ok (.iconst 1, 1) := by decide +kernel
theorem dX12_isOp_25 : decode cX12_isOp 25 = .ok (.goto 4, 3) := by decide +kernel
theorem dX12_isOp_28 : decode cX12_isOp 28 = .ok (.iconst 0, 1) := by decide +kernel
theorem dX12_isOp_29 : decode cX12_isOp 29 = .ok (.ireturn, 1) := by decide +kernel
theorem dX12_isSignByte_0 : decode cX12_isSignByte 0 = .ok (.iload_n 0, 1) := by decide +kernel
theorem dX12_isSignByte_1 : decode cX12_isSignByte 1 = .ok (.bipush 40, 2) := by decide +kernel
theorem dX12_isSignByte_3 : decode cX12_isSignByte 3 = .ok (.if_icmp .eq 40, 3) := by decide +kernel
theorem dX12_isSignByte_6 : decode cX12_isSignByte 6 = .ok (.iload_n 0, 1) := by decide +kernel
theorem dX12_isSignByte_7 : decode cX12_isSignByte 7 = .ok (.bipush 41, 2) := by decide +kernel
theorem dX12_isSignByte_9 : decode cX12_isSignByte 9 = .ok (.if_icmp .eq 34, 3) := by decide +kernel
theorem dX12_isSignByte_12 : decode cX12_isSignByte 12 = .ok (.iload_n 0, 1) := by decide +kernel
theorem dX12_isSignByte_13 : decode cX12_isSignByte 13 = .ok (.bipush 38, 2) := by decide +kernel
theorem dX12_isSignByte_15 : decode cX12_isSignByte 15 = .ok (.if_icmp .eq 28, 3) := by decide +kernel
theorem dX12_isSignByte_18 : decode cX12_isSignByte 18 = .ok (.iload_n 0, 1) := by decide +kernel
theorem dX12_isSignByte_19 : decode cX12_isSignByte 19 = .ok (.bipush 59, 2) := by decide +kernel
theorem dX12_isSignByte_21 : decode cX12_isSignByte 21 = .ok (.if_icmp .eq 22, 3) := by decide +kernel
theorem dX12_isSignByte_24 : decode cX12_isSignByte 24 = .ok (.iload_n 0, 1) := by decide +kernel
theorem dX12_isSignByte_25 : decode cX12_isSignByte 25 = .ok (.bipush 46, 2) := by decide +kernel
theorem dX12_isSignByte_27 : decode cX12_isSignByte 27 = .ok (.if_icmp .eq 16, 3) := by decide +kernel
theorem dX12_isSignByte_30 : decode cX12_isSignByte 30 = .ok (.iload_n 0, 1) := by decide +kernel
theorem dX12_isSignByte_31 : decode cX12_isSignByte 31 = .ok (.bipush 61, 2) := by decide +kernel
theorem dX12_isSignByte_33 : decode cX12_isSignByte 33 = .ok (.if_icmp .eq 10, 3) := by decide +kernel
theorem dX12_isSignByte_36 : decode cX12_isSignByte 36 = .ok (.iload_n 0, 1) := by decide +kernel
theorem dX12_isSignByte_37 : decode cX12_isSignByte 37 = .ok (.invokestatic 54, 3) := by decide +kernel
theorem dX12_isSignByte_40 : decode cX12_isSignByte 40 = .ok (.ifCond .eq 7, 3) := by decide +kernel
theorem dX12_isSignByte_43 : decode cX12_isSignByte 43 = .ok (.iconst 1, 1) := by decide +kernel
theorem dX12_isSignByte_44 : decode cX12_isSignByte 44 = .ok (.goto 4, 3) := by decide +kernel
theorem dX12_isSignByte_47 : decode cX12_isSignByte 47 = .ok (.iconst 0, 1) := by decide +kernel
theorem dX12_isSignByte_48 : decode cX12_isSignByte 48 = .ok (.ireturn, 1) := by decide +kernel
theorem dX12_look_0 : decode cX12_look 0 = .ok (.iload_n 1, 1) := by decide +kernel
theorem dX12_look_1 : decode cX12_look 1 = .ok (.istore_n 2, 1) := by decide +kernel
theorem dX12_look_2 : decode cX12_look 2 = .ok (.iload_n 2, 1) := by decide +kernel
theorem dX12_look_3 : decode cX12_look 3 = .ok (.aload_n 0, 1) := by decide +kernel
theorem dX12_look_4 : decode cX12_look 4 = .ok (.getfield 47, 3) := by decide +kernel
theorem dX12_look_7 : decode cX12_look 7 = .ok (.if_icmp .ge 20, 3) := by decide +kernel
theorem dX12_look_10 : decode cX12_look 10 = .ok (.aload_n 0, 1) := by decide +kernel
theorem dX12_look_11 : decode cX12_look 11 = .ok (.getfield 50, 3) := by decide +kernel
theorem dX12_look_14 : decode cX12_look 14 = .ok (.iload_n 2, 1) := by decide +kernel
theorem dX12_look_15 : decode cX12_look 15 = .ok (.baload, 1) := by decide +kernel
theorem dX12_look_16 : decode cX12_look 16 = .ok (.bipush 32, 2) := by decide +kernel
theorem dX12_look_18 : decode cX12_look 18 = .ok (.if_icmp .ne 9, 3) := by decide +kernel
theorem dX12_look_21 : decode cX12_look 21 = .ok (.iinc 2 1, 3) := by decide +kernel
theorem dX12_look_24 : decode cX12_look 24 = .ok (.goto (-22), 3) := by decide +kernel
theorem dX12_look_27 : decode cX12_look 27 = .ok (.aload_n 0, 1) := by decide +kernel
theorem dX12_look_28 : decode cX12_look 28 = .ok (.iload_n 2, 1) := by decide +kernel
theorem dX12_look_29 : decode cX12_look 29 = .ok (.putfield 58, 3) := by decide +kernel
theorem dX12_look_32 : decode cX12_look 32 = .ok (.aload_n 0, 1) := by decide +kernel
theorem dX12_look_33 : decode cX12_look 33 = .ok (.iload_n 2, 1) := by decide +kernel
theorem dX12_look_34 : decode cX12_look 34 = .ok (.iconst 1, 1) := by decide +kernel
theorem dX12_look_35 : decode cX12_look 35 = .ok (.iadd, 1) := by decide +kernel
theorem dX12_look_36 : decode cX12_look 36 = .ok (.putfield 61, 3) := by decide +kernel
theorem dX12_look_39 : decode cX12_look 39 = .ok (.aload_n 0, 1) := by decide +kernel
theorem dX12_look_40 : decode cX12_look 40 = .ok (.iload_n 2, 1) := by decide +kernel
theorem dX12_look_41 : decode cX12_look 41 = .ok (.invokevirtual 64, 3) := by decide +kernel
theorem dX12_look_44 : decode cX12_look 44 = .ok (.istore_n 3, 1) := by decide +kernel
theorem dX12_look_45 : decode cX12_look 45 = .ok (.iload_n 2, 1) := by decide +kernel
theorem dX12_look_46 : decode cX12_look 46 = .ok (.aload_n 0, 1) := by decide +kernel
theorem dX12_look_47 : decode cX12_look 47 = .ok (.getfield 47, 3) := by decide +kernel
theorem dX12_look_50 : decode cX12_look 50 = .ok (.if_icmp .lt 19, 3) := by decide +kernel
theorem dX12_look_53 : decode cX12_look 53 = .ok (.aload_n 0, 1) := by decide +kernel
theorem dX12_look_54 : decode cX12_look 54 = .ok (.iconst 0, 1) := by decide +kernel
theorem dX12_look_55 : decode cX12_look 55 = .ok (.putfield 68, 3) := by decide +kernel
theorem dX12_look_58 : decode cX12_look 58 = .ok (.aload_n 0, 1) := by decide +kernel
theorem dX12_look_59 : decode cX12_look 59 = .ok (.aload_n 0, 1) := by decide +kernel
theorem dX12_look_60 : decode cX12_look 60 = .ok (.getfield 47, 3) := by decide +kernel
theorem dX12_look_63 : decode cX12_look 63 = .ok (.putfield 61, 3) := by decide +kernel
theorem dX12_look_66 : decode cX12_look 66 = .ok (.goto 85, 3) := by decide +kernel
theorem dX12_look_69 : decode cX12_look 69 = .ok (.iload_n 3, 1) := by decide +kernel
theorem dX12_look_70 : decode cX12_look 70 = .ok (.bipush 10, 2) := by decide +kernel
theorem dX12_look_72 : decode cX12_look 72 = .ok (.if_icmp .ne 11, 3) := by decide +kernel
theorem dX12_look_75 : decode cX12_look 75 = .ok (.aload_n 0, 1) := by decide +kernel
theorem dX12_look_76 : decode cX12_look 76 = .ok (.iconst 1, 1) := by decide +kernel
theorem dX12_look_77 : decode cX12_look 77 = .ok (.putfield 68, 3) := by decide +kernel
theorem dX12_look_80 : decode cX12_look 80 = .ok (.goto 71, 3) := by decide +kernel
theorem dX12_look_83 : decode cX12_look 83 = .ok (.iload_n 3, 1) := by decide +kernel
theorem dX12_look_84 : decode cX12_look 84 = .ok (.invokestatic 71, 3) := by decide +kernel
theorem dX12_look_87 : decode cX12_look 87 = .ok (.ifCond .eq 10, 3) := by decide +kernel
theorem dX12_look_90 : decode cX12_look 90 = .ok (.aload_n 0, 1) := by decide +kernel
theorem dX12_look_91 : decode cX12_look 91 = .ok (.invokevirtual 74, 3) := by decide +kernel
theorem dX12_look_94 : decode cX12_look 94 = .ok (.goto 57, 3) := by decide +kernel
theorem dX12_look_97 : decode cX12_look 97 = .ok (.iload_n 3, 1) := by decide +kernel
theorem dX12_look_98 : decode cX12_look 98 = .ok (.invokestatic 78, 3) := by decide +kernel
theorem dX12_look_101 : decode cX12_look 101 = .ok (.ifCond .eq 10, 3) := by decide +kernel
theorem dX12_look_104 : decode cX12_look 104 = .ok (.aload_n 0, 1) := by decide +kernel
theorem dX12_look_105 : decode cX12_look 105 = .ok (.invokevirtual 81, 3) := by decide +kernel
theorem dX12_look_108 : decode cX12_look 108 = .ok (.goto 43, 3) := by decide +kernel
theorem dX12_look_111 : decode cX12_look 111 = .ok (.iload_n 3, 1) := by decide +kernel
theorem dX12_look_112 : decode cX12_look 112 = .ok (.bipush 34, 2) := by decide +kernel
theorem dX12_look_114 : decode cX12_look 114 = .ok (.if_icmp .ne 10, 3) := by decide +kernel
theorem dX12_look_117 : decode cX12_look 117 = .ok (.aload_n 0, 1) := by decide +kernel
theorem dX12_look_118 : decode cX12_look 118 = .ok (.invokevirtual 84, 3) := by decide +kernel
theorem dX12_look_121 : decode cX12_look 121 = .ok (.goto 30, 3) := by decide +kernel
theorem dX12_look_124 : decode cX12_look 124 = .ok (.iload_n 3, 1) := by decide +kernel
theorem dX12_look_125 : decode cX12_look 125 = .ok (.invokestatic 87, 3) := by decide +kernel
theorem dX12_look_128 : decode cX12_look 128 = .ok (.ifCond .eq 17, 3) := by decide +kernel
theorem dX12_look_131 : decode cX12_look 131 = .ok (.aload_n 0, 1) := by decide +kernel
theorem dX12_look_132 : decode cX12_look 132 = .ok (.bipush 6, 2) := by decide +kernel
theorem dX12_look_134 : decode cX12_look 134 = .ok (.putfield 68, 3) := by decide +kernel
theorem dX12_look_137 : decode cX12_look 137 = .ok (.aload_n 0, 1) := by decide +kernel
theorem dX12_look_138 : decode cX12_look 138 = .ok (.iload_n 3, 1) := by decide +kernel
theorem dX12_look_139 : decode cX12_look 139 = .ok (.putfield 90, 3) := by decide +kernel
theorem dX12_look_142 : decode cX12_look 142 = .ok (.goto 9, 3) := by decide +kernel
theorem dX12_look_145 : decode cX12_look 145 = .ok (.aload_n 0, 1) := by decide +kernel
theorem dX12_look_146 : decode cX12_look 146 = .ok (.bipush 7, 2) := by decide +kernel
theorem dX12_look_148 : decode cX12_look 148 = .ok (.putfield 68, 3) := by decide +kernel
theorem dX12_look_151 : decode cX12_look 151 = .ok (.return_, 1) := by decide +kernel
theorem dX12_lookName_0 : decode cX12_lookName 0 = .ok (.aload_n 0, 1) := by decide +kernel
theorem dX12_lookName_1 : decode cX12_lookName 1 = .ok (.getfield 58, 3) := by decide +kernel
theorem dX12_lookName_4 : decode cX12_lookName 4 = .ok (.istore_n 1, 1) := by decide +kernel
theorem dX12_lookName_5 : decode cX12_lookName 5 = .ok (.aload_n 0, 1) := by decide +kernel
theorem dX12_lookName_6 : decode cX12_lookName 6 = .ok (.lconst 0, 1) := by decide +kernel
theorem dX12_lookName_7 : decode cX12_lookName 7 = .ok (.putfield 93, 3) := by decide +kernel
theorem dX12_lookName_10 : decode cX12_lookName 10 = .ok (.aload_n 0, 1) := by decide +kernel
theorem dX12_lookName_11 : decode cX12_lookName 11 = .ok (.lconst 0, 1) := by decide +kernel
theorem dX12_lookName_12 : decode cX12_lookName 12 = .ok (.putfield 97, 3) := by decide +kernel
theorem dX12_lookName_15 : decode cX12_lookName 15 = .ok (.iconst 0, 1) := by decide +kernel
theorem dX12_lookName_16 : decode cX12_lookName 16 = .ok (.istore_n 2, 1) := by decide +kernel
theorem dX12_lookName_17 : decode cX12_lookName 17 = .ok (.aload_n 0, 1) := by decide +kernel
theorem dX12_lookName_18 : decode cX12_lookName 18 = .ok (.iload_n 1, 1) := by decide +kernel
theorem dX12_lookName_19 : decode cX12_lookName 19 = .ok (.invokevirtual 64, 3) := by decide +kernel
theorem dX12_lookName_22 : decode cX12_lookName 22 = .ok (.invokestatic 71, 3) := by decide +kernel
theorem dX12_lookName_25 : decode cX12_lookName 25 = .ok (.ifCond .ne 14, 3) := by decide +kernel
theorem dX12_lookName_28 : decode cX12_lookName 28 = .ok (.aload_n 0, 1) := by decide +kernel
theorem dX12_lookName_29 : decode cX12_lookName 29 = .ok (.iload_n 1, 1) := by decide +kernel
theorem dX12_lookName_30 : decode cX12_lookName 30 = .ok (.invokevirtual 64, 3) := by decide +kernel
theorem dX12_lookName_33 : decode cX12_lookName 33 = .ok (.invokestatic 78, 3) := by decide +kernel
theorem dX12_lookName_36 : decode cX12_lookName 36 = .ok (.ifCond .eq 86, 3) := by decide +kernel
theorem dX12_lookName_39 : decode cX12_lookName 39 = .ok (.aload_n 0, 1) := by decide +kernel
theorem dX12_lookName_40 : decode cX12_lookName 40 = .ok (.iload_n 1, 1) := by decide +kernel
theorem dX12_lookName_41 : decode cX12_lookName 41 = .ok (.invokevirtual 64, 3) := by decide +kernel
theorem dX12_lookName_44 : decode cX12_lookName 44 = .ok (.istore_n 3, 1) := by decide +kernel
theorem dX12_lookName_45 : decode cX12_lookName 45 = .ok (.iload_n 3, 1) := by decide +kernel
theorem dX12_lookName_46 : decode cX12_lookName 46 = .ok (.invokestatic 78, 3) := by decide +kernel
theorem dX12_lookName_49 : decode cX12_lookName 49 = .ok (.ifCond .eq 14, 3) := by decide +kernel
theorem dX12_lookName_52 : decode cX12_lookName 52 = .ok (.iload_n 3, 1) := by decide +kernel
theorem dX12_lookName_53 : decode cX12_lookName 53 = .ok (.bipush 48, 2) := by decide +kernel
theorem dX12_lookName_55 : decode cX12_lookName 55 = .ok (.isub, 1) := by decide +kernel
theorem dX12_lookName_56 : decode cX12_lookName 56 = .ok (.bipush 27, 2) := by decide +kernel
theorem dX12_lookName_58 : decode cX12_lookName 58 = .ok (.iadd, 1) := by decide +kernel
theorem dX12_lookName_59 : decode cX12_lookName 59 = .ok (.i2l, 1) := by decide +kernel
theorem dX12_lookName_60 : decode cX12_lookName 60 = .ok (.goto 10, 3) := by decide +kernel
theorem dX12_lookName_63 : decode cX12_lookName 63 = .ok (.iload_n 3, 1) := by decide +kernel
theorem dX12_lookName_64 : decode cX12_lookName 64 = .ok (.bipush 97, 2) := by decide +kernel
theorem dX12_lookName_66 : decode cX12_lookName 66 = .ok (.isub, 1) := by decide +kernel
theorem dX12_lookName_67 : decode cX12_lookName 67 = .ok (.iconst 1, 1) := by decide +kernel
theorem dX12_lookName_68 : decode cX12_lookName 68 = .ok (.iadd, 1) := by decide +kernel
theorem dX12_lookName_69 : decode cX12_lookName 69 = .ok (.i2l, 1) := by decide +kernel
theorem dX12_lookName_70 : decode cX12_lookName 70 = .ok (.lstore 4, 2) := by decide +kernel
theorem dX12_lookName_72 : decode cX12_lookName 72 = .ok (.iload_n 2, 1) := by decide +kernel
theorem dX12_lookName_73 : decode cX12_lookName 73 = .ok (.bipush 6, 2) := by decide +kernel
theorem dX12_lookName_75 : decode cX12_lookName 75 = .ok (.if_icmp .ge 20, 3) := by decide +kernel
theorem dX12_lookName_78 : decode cX12_lookName 78 = .ok (.aload_n 0, 1) := by decide +kernel
theorem dX12_lookName_79 : decode cX12_lookName 79 = .ok (.aload_n 0, 1) := by decide +kernel
theorem dX12_lookName_80 : decode cX12_lookName 80 = .ok (.getfield 93, 3) := by decide +kernel
theorem dX12_lookName_83 : decode cX12_lookName 83 = .ok (.bipush 6, 2) := by decide +kernel
theorem dX12_lookName_85 : decode cX12_lookName 85 = .ok (.lshl, 1) := by decide +kernel
theorem dX12_lookName_86 : decode cX12_lookName 86 = .ok (.lload 4, 2) := by decide +kernel
theorem dX12_lookName_88 : decode cX12_lookName 88 = .ok (.lor, 1) := by decide +kernel
theorem dX12_lookName_89 : decode cX12_lookName 89 = .ok (.putfield 93, 3) := by decide +kernel
theorem dX12_lookName_92 : decode cX12_lookName 92 = .ok (.goto 21, 3) := by decide +kernel
theorem dX12_lookName_95 : decode cX12_lookName 95 = .ok (.aload_n 0, 1) := by decide +kernel
theorem dX12_lookName_96 : decode cX12_lookName 96 = .ok (.aload_n 0, 1) := by decide +kernel
theorem dX12_lookName_97 : decode cX12_lookName 97 = .ok (.getfield 97, 3) := by decide +kernel
theorem dX12_lookName_100 : decode cX12_lookName 100 = .ok (.ldc2_w 100, 3) := by decide +kernel
theorem dX12_lookName_103 : decode cX12_lookName 103 = .ok (.land, 1) := by decide +kernel
theorem dX12_lookName_104 : decode cX12_lookName 104 = .ok (.bipush 6, 2) := by decide +kernel
theorem dX12_lookName_106 : decode cX12_lookName 106 = .ok (.lshl, 1) := by decide +kernel
theorem dX12_lookName_107 : decode cX12_lookName 107 = .ok (.lload 4, 2) := by decide +kernel
theorem dX12_lookName_109 : decode cX12_lookName 109 = .ok (.lor, 1) := by decide +kernel
theorem dX12_lookName_110 : decode cX12_lookName 110 = .ok (.putfield 97, 3) := by decide +kernel
theorem dX12_lookName_113 : decode cX12_lookName 113 = .ok (.iinc 2 1, 3) := by decide +kernel
theorem dX12_lookName_116 : decode cX12_lookName 116 = .ok (.iinc 1 1, 3) := by decide +kernel
theorem dX12_lookName_119 : decode cX12_lookName 119 = .ok (.goto (-102), 3) := by decide +kernel
theorem dX12_lookName_122 : decode cX12_lookName 122 = .ok (.aload_n 0, 1) := by decide +kernel
theorem dX12_lookName_123 : decode cX12_lookName 123 = .ok (.iload_n 1, 1) := by decide +kernel
theorem dX12_lookName_124 : decode cX12_lookName 124 = .ok (.putfield 61, 3) := by decide +kernel
theorem dX12_lookName_127 : decode cX12_lookName 127 = .ok (.aload_n 0, 1) := by decide +kernel
theorem dX12_lookName_128 : decode cX12_lookName 128 = .ok (.iload_n 2, 1) := by decide +kernel
theorem dX12_lookName_129 : decode cX12_lookName 129 = .ok (.bipush 12, 2) := by decide +kernel
theorem dX12_lookName_131 : decode cX12_lookName 131 = .ok (.if_icmp .le 8, 3) := by decide +kernel
theorem dX12_lookName_134 : decode cX12_lookName 134 = .ok (.bipush 7, 2) := by decide +kernel
theorem dX12_lookName_136 : decode cX12_lookName 136 = .ok (.goto 4, 3) := by decide +kernel
theorem dX12_lookName_139 : decode cX12_lookName 139 = .ok (.iconst 2, 1) := by decide +kernel
theorem dX12_lookName_140 : decode cX12_lookName 140 = .ok (.putfield 68, 3) := by decide +kernel
theorem dX12_lookName_143 : decode cX12_lookName 143 = .ok (.return_, 1) := by decide +kernel
theorem dX12_lookNumber_0 : decode cX12_lookNumber 0 = .ok (.aload_n 0, 1) := by decide +kernel
theorem dX12_lookNumber_1 : decode cX12_lookNumber 1 = .ok (.getfield 58, 3) := by decide +kernel
theorem dX12_lookNumber_4 : decode cX12_lookNumber 4 = .ok (.istore_n 1, 1) := by decide +kernel
theorem dX12_lookNumber_5 : decode cX12_lookNumber 5 = .ok (.iconst 0, 1) := by decide +kernel
theorem dX12_lookNumber_6 : decode cX12_lookNumber 6 = .ok (.istore_n 2, 1) := by decide +kernel
theorem dX12_lookNumber_7 : decode cX12_lookNumber 7 = .ok (.iconst 0, 1) := by decide +kernel
theorem dX12_lookNumber_8 : decode cX12_lookNumber 8 = .ok (.istore_n 3, 1) := by decide +kernel
theorem dX12_lookNumber_9 : decode cX12_lookNumber 9 = .ok (.aload_n 0, 1) := by decide +kernel
theorem dX12_lookNumber_10 : decode cX12_lookNumber 10 = .ok (.iload_n 1, 1) := by decide +kernel
theorem dX12_lookNumber_11 : decode cX12_lookNumber 11 = .ok (.invokevirtual 64, 3) := by decide +kernel
theorem dX12_lookNumber_14 : decode cX12_lookNumber 14 = .ok (.invokestatic 78, 3) := by decide +kernel
theorem dX12_lookNumber_17 : decode cX12_lookNumber 17 = .ok (.ifCond .eq 35, 3) := by decide +kernel
theorem dX12_lookNumber_20 : decode cX12_lookNumber 20 = .ok (.iload_n 3, 1) := by decide +kernel
theorem dX12_lookNumber_21 : decode cX12_lookNumber 21 = .ok (.iconst 4, 1) := by decide +kernel
theorem dX12_lookNumber_22 : decode cX12_lookNumber 22 = .ok (.if_icmp .ge 19, 3) := by decide +kernel
theorem dX12_lookNumber_25 : decode cX12_lookNumber 25 = .ok (.bipush 10, 2) := by decide +kernel
theorem dX12_lookNumber_27 : decode cX12_lookNumber 27 = .ok (.iload_n 2, 1) := by decide +kernel
theorem dX12_lookNumber_28 : decode cX12_lookNumber 28 = .ok (.imul, 1) := by decide +kernel
theorem dX12_lookNumber_29 : decode cX12_lookNumber 29 = .ok (.aload_n 0, 1) := by decide +kernel
theorem dX12_lookNumber_30 : decode cX12_lookNumber 30 = .ok (.iload_n 1, 1) := by decide +kernel
theorem dX12_lookNumber_31 : decode cX12_lookNumber 31 = .ok (.invokevirtual 64, 3) := by decide +kernel
theorem dX12_lookNumber_34 : decode cX12_lookNumber 34 = .ok (.iadd, 1) := by decide +kernel
theorem dX12_lookNumber_35 : decode cX12_lookNumber 35 = .ok (.bipush 48, 2) := by decide +kernel
theorem dX12_lookNumber_37 : decode cX12_lookNumber 37 = .ok (.isub, 1) := by decide +kernel
theorem dX12_lookNumber_38 : decode cX12_lookNumber 38 = .ok (.goto 4, 3) := by decide +kernel
theorem dX12_lookNumber_41 : decode cX12_lookNumber 41 = .ok (.iload_n 2, 1) := by decide +kernel
theorem dX12_lookNumber_42 : decode cX12_lookNumber 42 = .ok (.istore_n 2, 1) := by decide +kernel
theorem dX12_lookNumber_43 : decode cX12_lookNumber 43 = .ok (.iinc 3 1, 3) := by decide +kernel
theorem dX12_lookNumber_46 : decode cX12_lookNumber 46 = .ok (.iinc 1 1, 3) := by decide +kernel
theorem dX12_lookNumber_49 : decode cX12_lookNumber 49 = .ok (.goto (-40), 3) := by decide +kernel
theorem dX12_lookNumber_52 : decode cX12_lookNumber 52 = .ok (.aload_n 0, 1) := by decide +kernel
theorem dX12_lookNumber_53 : decode cX12_lookNumber 53 = .ok (.iload_n 2, 1) := by decide +kernel
theorem dX12_lookNumber_54 : decode cX12_lookNumber 54 = .ok (.putfield 102, 3) := by decide +kernel
theorem dX12_lookNumber_57 : decode cX12_lookNumber 57 = .ok (.aload_n 0, 1) := by decide +kernel
theorem dX12_lookNumber_58 : decode cX12_lookNumber 58 = .ok (.iload_n 3, 1) := by decide +kernel
theorem dX12_lookNumber_59 : decode cX12_lookNumber 59 = .ok (.iconst 4, 1) := by decide +kernel
theorem dX12_lookNumber_60 : decode cX12_lookNumber 60 = .ok (.if_icmp .le 8, 3) := by decide +kernel
theorem dX12_lookNumber_63 : decode cX12_lookNumber 63 = .ok (.bipush 7, 2) := by decide +kernel
theorem dX12_lookNumber_65 : decode cX12_lookNumber 65 = .ok (.goto 4, 3) := by decide +kernel
theorem dX12_lookNumber_68 : decode cX12_lookNumber 68 = .ok (.iconst 3, 1) := by decide +kernel
theorem dX12_lookNumber_69 : decode cX12_lookNumber 69 = .ok (.putfield 68, 3) := by decide +kernel
theorem dX12_lookNumber_72 : decode cX12_lookNumber 72 = .ok (.aload_n 0, 1) := by decide +kernel
theorem dX12_lookNumber_73 : decode cX12_lookNumber 73 = .ok (.iload_n 1, 1) := by decide +kernel
theorem dX12_lookNumber_74 : decode cX12_lookNumber 74 = .ok (.invokevirtual 64, 3) := by decide +kernel
theorem dX12_lookNumber_77 : decode cX12_lookNumber 77 = .ok (.bipush 58, 2) := by decide +kernel
theorem dX12_lookNumber_79 : decode cX12_lookNumber 79 = .ok (.if_icmp .ne 94, 3) := by decide +kernel
theorem dX12_lookNumber_82 : decode cX12_lookNumber 82 = .ok (.aload_n 0, 1) := by decide +kernel
theorem dX12_lookNumber_83 : decode cX12_lookNumber 83 = .ok (.iload_n 1, 1) := by decide +kernel
theorem dX12_lookNumber_84 : decode cX12_lookNumber 84 = .ok (.iconst 1, 1) := by decide +kernel
theorem dX12_lookNumber_85 : decode cX12_lookNumber 85 = .ok (.iadd, 1) := by decide +kernel
theorem dX12_lookNumber_86 : decode cX12_lookNumber 86 = .ok (.invokevirtual 64, 3) := by decide +kernel
theorem dX12_lookNumber_89 : decode cX12_lookNumber 89 = .ok (.invokestatic 78, 3) := by decide +kernel
theorem dX12_lookNumber_92 : decode cX12_lookNumber 92 = .ok (.ifCond .eq 81, 3) := by decide +kernel
theorem dX12_lookNumber_95 : decode cX12_lookNumber 95 = .ok (.iinc 1 1, 3) := by decide +kernel
theorem dX12_lookNumber_98 : decode cX12_lookNumber 98 = .ok (.iconst 0, 1) := by decide +kernel
theorem dX12_lookNumber_99 : decode cX12_lookNumber 99 = .ok (.istore_n 2, 1) := by decide +kernel
theorem dX12_lookNumber_100 : decode cX12_lookNumber 100 = .ok (.iconst 0, 1) := by decide +kernel
theorem dX12_lookNumber_101 : decode cX12_lookNumber 101 = .ok (.istore 4, 2) := by decide +kernel
theorem dX12_lookNumber_103 : decode cX12_lookNumber 103 = .ok (.aload_n 0, 1) := by decide +kernel
theorem dX12_lookNumber_104 : decode cX12_lookNumber 104 = .ok (.iload_n 1, 1) := by decide +kernel
theorem dX12_lookNumber_105 : decode cX12_lookNumber 105 = .ok (.invokevirtual 64, 3) := by decide +kernel
theorem dX12_lookNumber_108 : decode cX12_lookNumber 108 = .ok (.invokestatic 78, 3) := by decide +kernel
theorem dX12_lookNumber_111 : decode cX12_lookNumber 111 = .ok (.ifCond .eq 36, 3) := by decide +kernel
theorem dX12_lookNumber_114 : decode cX12_lookNumber 114 = .ok (.iload 4, 2) := by decide +kernel
theorem dX12_lookNumber_116 : decode cX12_lookNumber 116 = .ok (.iconst 4, 1) := by decide +kernel
theorem dX12_lookNumber_117 : decode cX12_lookNumber 117 = .ok (.if_icmp .ge 19, 3) := by decide +kernel
theorem dX12_lookNumber_120 : decode cX12_lookNumber 120 = .ok (.bipush 10, 2) := by decide +kernel
theorem dX12_lookNumber_122 : decode cX12_lookNumber 122 = .ok (.iload_n 2, 1) := by decide +kernel
theorem dX12_lookNumber_123 : decode cX12_lookNumber 123 = .ok (.imul, 1) := by decide +kernel
theorem dX12_lookNumber_124 : decode cX12_lookNumber 124 = .ok (.aload_n 0, 1) := by decide +kernel
theorem dX12_lookNumber_125 : decode cX12_lookNumber 125 = .ok (.iload_n 1, 1) := by decide +kernel
theorem dX12_lookNumber_126 : decode cX12_lookNumber 126 = .ok (.invokevirtual 64, 3) := by decide +kernel
theorem dX12_lookNumber_129 : decode cX12_lookNumber 129 = .ok (.iadd, 1) := by decide +kernel
theorem dX12_lookNumber_130 : decode cX12_lookNumber 130 = .ok (.bipush 48, 2) := by decide +kernel
theorem dX12_lookNumber_132 : decode cX12_lookNumber 132 = .ok (.isub, 1) := by decide +kernel
theorem dX12_lookNumber_133 : decode cX12_lookNumber 133 = .ok (.goto 4, 3) := by decide +kernel
theorem dX12_lookNumber_136 : decode cX12_lookNumber 136 = .ok (.iload_n 2, 1) := by decide +kernel
theorem dX12_lookNumber_137 : decode cX12_lookNumber 137 = .ok (.istore_n 2, 1) := by decide +kernel
theorem dX12_lookNumber_138 : decode cX12_lookNumber 138 = .ok (.iinc 4 1, 3) := by decide +kernel
theorem dX12_lookNumber_141 : decode cX12_lookNumber 141 = .ok (.iinc 1 1, 3) := by decide +kernel
theorem dX12_lookNumber_144 : decode cX12_lookNumber 144 = .ok (.goto (-41), 3) := by decide +kernel
theorem dX12_lookNumber_147 : decode cX12_lookNumber 147 = .ok (.aload_n 0, 1) := by decide +kernel
theorem dX12_lookNumber_148 : decode cX12_lookNumber 148 = .ok (.iload_n 2, 1) := by decide +kernel
theorem dX12_lookNumber_149 : decode cX12_lookNumber 149 = .ok (.putfield 105, 3) := by decide +kernel
theorem dX12_lookNumber_152 : decode cX12_lookNumber 152 = .ok (.aload_n 0, 1) := by decide +kernel
theorem dX12_lookNumber_153 : decode cX12_lookNumber 153 = .ok (.iload_n 3, 1) := by decide +kernel
theorem dX12_lookNumber_154 : decode cX12_lookNumber 154 = .ok (.iconst 4, 1) := by decide +kernel
theorem dX12_lookNumber_155 : decode cX12_lookNumber 155 = .ok (.if_icmp .gt 9, 3) := by decide +kernel
theorem dX12_lookNumber_158 : decode cX12_lookNumber 158 = .ok (.iload 4, 2) := by decide +kernel
theorem dX12_lookNumber_160 : decode cX12_lookNumber 160 = .ok (.iconst 4, 1) := by decide +kernel
theorem dX12_lookNumber_161 : decode cX12_lookNumber 161 = .ok (.if_icmp .le 8, 3) := by decide +kernel
theorem dX12_lookNumber_164 : decode cX12_lookNumber 164 = .ok (.bipush 7, 2) := by decide +kernel
theorem dX12_lookNumber_166 : decode cX12_lookNumber 166 = .ok (.goto 4, 3) := by decide +kernel
theorem dX12_lookNumber_169 : decode cX12_lookNumber 169 = .ok (.iconst 4, 1) := by decide +kernel
theorem dX12_lookNumber_170 : decode cX12_lookNumber 170 = .ok (.putfield 68, 3) := by decide +kernel
theorem dX12_lookNumber_173 : decode cX12_lookNumber 173 = .ok (.aload_n 0, 1) := by decide +kernel
theorem dX12_lookNumber_174 : decode cX12_lookNumber 174 = .ok (.iload_n 1, 1) := by decide +kernel
theorem dX12_lookNumber_175 : decode cX12_lookNumber 175 = .ok (.putfield 61, 3) := by decide +kernel
theorem dX12_lookNumber_178 : decode cX12_lookNumber 178 = .ok (.return_, 1) := by decide +kernel
theorem dX12_lookText_0 : decode cX12_lookText 0 = .ok (.aload_n 0, 1) := by decide +kernel
theorem dX12_lookText_1 : decode cX12_lookText 1 = .ok (.getfield 58, 3) := by decide +kernel
theorem dX12_lookText_4 : decode cX12_lookText 4 = .ok (.iconst 1, 1) := by decide +kernel
theorem dX12_lookText_5 : decode cX12_lookText 5 = .ok (.iadd, 1) := by decide +kernel
theorem dX12_lookText_6 : decode cX12_lookText 6 = .ok (.istore_n 1, 1) := by decide +kernel
theorem dX12_lookText_7 : decode cX12_lookText 7 = .ok (.iload_n 1, 1) := by decide +kernel
theorem dX12_lookText_8 : decode cX12_lookText 8 = .ok (.aload_n 0, 1) := by decide +kernel
theorem dX12_lookText_9 : decode cX12_lookText 9 = .ok (.getfield 47, 3) := by decide +kernel
theorem dX12_lookText_12 : decode cX12_lookText 12 = .ok (.if_icmp .ge 42, 3) := by decide +kernel
theorem dX12_lookText_15 : decode cX12_lookText 15 = .ok (.aload_n 0, 1) := by decide +kernel
theorem dX12_lookText_16 : decode cX12_lookText 16 = .ok (.getfield 50, 3) := by decide +kernel
theorem dX12_lookText_19 : decode cX12_lookText 19 = .ok (.iload_n 1, 1) := by decide +kernel
theorem dX12_lookText_20 : decode cX12_lookText 20 = .ok (.baload, 1) := by decide +kernel
theorem dX12_lookText_21 : decode cX12_lookText 21 = .ok (.bipush 34, 2) := by decide +kernel
theorem dX12_lookText_23 : decode cX12_lookText 23 = .ok (.if_icmp .eq 31, 3) := by decide +kernel
theorem dX12_lookText_26 : decode cX12_lookText 26 = .ok (.aload_n 0, 1) := by decide +kernel
theorem dX12_lookText_27 : decode cX12_lookText 27 = .ok (.getfield 50, 3) := by decide +kernel
theorem dX12_lookText_30 : decode cX12_lookText 30 = .ok (.iload_n 1, 1) := by decide +kernel
theorem dX12_lookText_31 : decode cX12_lookText 31 = .ok (.baload, 1) := by decide +kernel
theorem dX12_lookText_32 : decode cX12_lookText 32 = .ok (.bipush 32, 2) := by decide +kernel
theorem dX12_lookText_34 : decode cX12_lookText 34 = .ok (.if_icmp .lt 20, 3) := by decide +kernel
theorem dX12_lookText_37 : decode cX12_lookText 37 = .ok (.aload_n 0, 1) := by decide +kernel
theorem dX12_lookText_38 : decode cX12_lookText 38 = .ok (.getfield 50, 3) := by decide +kernel
theorem dX12_lookText_41 : decode cX12_lookText 41 = .ok (.iload_n 1, 1) := by decide +kernel
theorem dX12_lookText_42 : decode cX12_lookText 42 = .ok (.baload, 1) := by decide +kernel
theorem dX12_lookText_43 : decode cX12_lookText 43 = .ok (.bipush 127, 2) := by decide +kernel
theorem dX12_lookText_45 : decode cX12_lookText 45 = .ok (.if_icmp .ge 9, 3) := by decide +kernel
theorem dX12_lookText_48 : decode cX12_lookText 48 = .ok (.iinc 1 1, 3) := by decide +kernel
theorem dX12_lookText_51 : decode cX12_lookText 51 = .ok (.goto (-44), 3) := by decide +kernel
theorem dX12_lookText_54 : decode cX12_lookText 54 = .ok (.aload_n 0, 1) := by decide +kernel
theorem dX12_lookText_55 : decode cX12_lookText 55 = .ok (.iload_n 1, 1) := by decide +kernel
theorem dX12_lookText_56 : decode cX12_lookText 56 = .ok (.aload_n 0, 1) := by decide +kernel
theorem dX12_lookText_57 : decode cX12_lookText 57 = .ok (.getfield 47, 3) := by decide +kernel
theorem dX12_lookText_60 : decode cX12_lookText 60 = .ok (.if_icmp .ge 18, 3) := by decide +kernel
theorem dX12_lookText_63 : decode cX12_lookText 63 = .ok (.aload_n 0, 1) := by decide +kernel
theorem dX12_lookText_64 : decode cX12_lookText 64 = .ok (.getfield 50, 3) := by decide +kernel
theorem dX12_lookText_67 : decode cX12_lookText 67 = .ok (.iload_n 1, 1) := by decide +kernel
theorem dX12_lookText_68 : decode cX12_lookText 68 = .ok (.baload, 1) := by decide +kernel
theorem dX12_lookText_69 : decode cX12_lookText 69 = .ok (.bipush 34, 2) := by decide +kernel
theorem dX12_lookText_71 : decode cX12_lookText 71 = .ok (.if_icmp .ne 7, 3) := by decide +kernel
theorem dX12_lookText_74 : decode cX12_lookText 74 = .ok (.iconst 5, 1) := by decide +kernel
theorem dX12_lookText_75 : decode cX12_lookText 75 = .ok (.goto 5, 3) := by decide +kernel
theorem dX12_lookText_78 : decode cX12_lookText 78 = .ok (.bipush 7, 2) := by decide +kernel
theorem dX12_lookText_80 : decode cX12_lookText 80 = .ok (.putfield 68, 3) := by decide +kernel
theorem dX12_lookText_83 : decode cX12_lookText 83 = .ok (.aload_n 0, 1) := by decide +kernel
theorem dX12_lookText_84 : decode cX12_lookText 84 = .ok (.iload_n 1, 1) := by decide +kernel
theorem dX12_lookText_85 : decode cX12_lookText 85 = .ok (.iconst 1, 1) := by decide +kernel
theorem dX12_lookText_86 : decode cX12_lookText 86 = .ok (.iadd, 1) := by decide +kernel
theorem dX12_lookText_87 : decode cX12_lookText 87 = .ok (.putfield 61, 3) := by decide +kernel
theorem dX12_lookText_90 : decode cX12_lookText 90 = .ok (.return_, 1) := by decide +kernel
theorem dX12_advance_0 : decode cX12_advance 0 = .ok (.aload_n 0, 1) := by decide +kernel
theorem dX12_advance_1 : decode cX12_advance 1 = .ok (.aload_n 0, 1) := by decide +kernel
theorem dX12_advance_2 : decode cX12_advance 2 = .ok (.getfield 61, 3) := by decide +kernel
theorem dX12_advance_5 : decode cX12_advance 5 = .ok (.invokevirtual 108, 3) := by decide +kernel
theorem dX12_advance_8 : decode cX12_advance 8 = .ok (.return_, 1) := by decide +kernel
theorem dX12_isSign_0 : decode cX12_isSign 0 = .ok (.aload_n 0, 1) := by decide +kernel
theorem dX12_isSign_1 : decode cX12_isSign 1 = .ok (.getfield 68, 3) := by decide +kernel
theorem dX12_isSign_4 : decode cX12_isSign 4 = .ok (.bipush 6, 2) := by decide +kernel
theorem dX12_isSign_6 : decode cX12_isSign 6 = .ok (.if_icmp .ne 15, 3) := by decide +kernel
theorem dX12_isSign_9 : decode cX12_isSign 9 = .ok (.aload_n 0, 1) := by decide +kernel
theorem dX12_isSign_10 : decode cX12_isSign 10 = .ok (.getfield 90, 3) := by decide +kernel
theorem dX12_isSign_13 : decode cX12_isSign 13 = .ok (.iload_n 1, 1) := by decide +kernel
theorem dX12_isSign_14 : decode cX12_isSign 14 = .ok (.if_icmp .ne 7, 3) := by decide +kernel
theorem dX12_isSign_17 : decode cX12_isSign 17 = .ok (.iconst 1, 1) := by decide +kernel
theorem dX12_isSign_18 : decode cX12_isSign 18 = .ok (.goto 4, 3) := by decide +kernel
theorem dX12_isSign_21 : decode cX12_isSign 21 = .ok (.iconst 0, 1) := by decide +kernel
theorem dX12_isSign_22 : decode cX12_isSign 22 = .ok (.ireturn, 1) := by decide +kernel
theorem dX12_isOpToken_0 : decode cX12_isOpToken 0 = .ok (.aload_n 0, 1) := by decide +kernel
theorem dX12_isOpToken_1 : decode cX12_isOpToken 1 = .ok (.getfield 68, 3) := by decide +kernel
theorem dX12_isOpToken_4 : decode cX12_isOpToken 4 = .ok (.bipush 6, 2) := by decide +kernel
theorem dX12_isOpToken_6 : decode cX12_isOpToken 6 = .ok (.if_icmp .ne 17, 3) := by decide +kernel
theorem dX12_isOpToken_9 : decode cX12_isOpToken 9 = .ok (.aload_n 0, 1) := by decide +kernel
theorem dX12_isOpToken_10 : decode cX12_isOpToken 10 = .ok (.getfield 90, 3) := by decide +kernel
theorem dX12_isOpToken_13 : decode cX12_isOpToken 13 = .ok (.invokestatic 54, 3) := by decide +kernel
theorem dX12_isOpToken_16 : decode cX12_isOpToken 16 = .ok (.ifCond .eq 7, 3) := by decide +kernel
theorem dX12_isOpToken_19 : decode cX12_isOpToken 19 = .ok (.iconst 1, 1) := by decide +kernel
theorem dX12_isOpToken_20 : decode cX12_isOpToken 20 = .ok (.goto 4, 3) := by decide +kernel
theorem dX12_isOpToken_23 : decode cX12_isOpToken 23 = .ok (.iconst 0, 1) := by decide +kernel
theorem dX12_isOpToken_24 : decode cX12_isOpToken 24 = .ok (.ireturn, 1) := by decide +kernel
theorem dX12_functionHere_0 : decode cX12_functionHere 0 = .ok (.iconst 0, 1) := by decide +kernel
theorem dX12_functionHere_1 : decode cX12_functionHere 1 = .ok (.istore_n 1, 1) := by decide +kernel
theorem dX12_functionHere_2 : decode cX12_functionHere 2 = .ok (.iconst (-1), 1) := by decide +kernel
theorem dX12_functionHere_3 : decode cX12_functionHere 3 = .ok (.istore_n 2, 1) := by decide +kernel
theorem dX12_functionHere_4 : decode cX12_functionHere 4 = .ok (.iconst 0, 1) := by decide +kernel
theorem dX12_functionHere_5 : decode cX12_functionHere 5 = .ok (.istore_n 3, 1) := by decide +kernel
theorem dX12_functionHere_6 : decode cX12_functionHere 6 = .ok (.iload_n 3, 1) := by decide +kernel
theorem dX12_functionHere_7 : decode cX12_functionHere 7 = .ok (.bipush 20, 2) := by decide +kernel
theorem dX12_functionHere_9 : decode cX12_functionHere 9 = .ok (.if_icmp .gt 98, 3) := by decide +kernel
theorem dX12_functionHere_12 : decode cX12_functionHere 12 = .ok (.iconst 0, 1) := by decide +kernel
theorem dX12_functionHere_13 : decode cX12_functionHere 13 = .ok (.istore 4, 2) := by decide +kernel
theorem dX12_functionHere_15 : decode cX12_functionHere 15 = .ok (.iconst 1, 1) := by decide +kernel
theorem dX12_functionHere_16 : decode cX12_functionHere 16 = .ok (.istore 5, 2) := by decide +kernel
theorem dX12_functionHere_18 : decode cX12_functionHere 18 = .ok (.aload_n 0, 1) := by decide +kernel
theorem dX12_functionHere_19 : decode cX12_functionHere 19 = .ok (.getfield 112, 3) := by decide +kernel
theorem dX12_functionHere_22 : decode cX12_functionHere 22 = .ok (.iload_n 1, 1) := by decide +kernel
theorem dX12_functionHere_23 : decode cX12_functionHere 23 = .ok (.iload 4, 2) := by decide +kernel
theorem dX12_functionHere_25 : decode cX12_functionHere 25 = .ok (.iadd, 1) := by decide +kernel
theorem dX12_functionHere_26 : decode cX12_functionHere 26 = .ok (.caload, 1) := by decide +kernel
theorem dX12_functionHere_27 : decode cX12_functionHere 27 = .ok (.bipush 32, 2) := by decide +kernel
theorem dX12_functionHere_29 : decode cX12_functionHere 29 = .ok (.if_icmp .eq 44, 3) := by decide +kernel
theorem dX12_functionHere_32 : decode cX12_functionHere 32 = .ok (.iload 5, 2) := by decide +kernel
theorem dX12_functionHere_34 : decode cX12_functionHere 34 = .ok (.ifCond .eq 30, 3) := by decide +kernel
theorem dX12_functionHere_37 : decode cX12_functionHere 37 = .ok (.aload_n 0, 1) := by decide +kernel
theorem dX12_functionHere_38 : decode cX12_functionHere 38 = .ok (.aload_n 0, 1) := by decide +kernel
theorem dX12_functionHere_39 : decode cX12_functionHere 39 = .ok (.getfield 58, 3) := by decide +kernel
theorem dX12_functionHere_42 : decode cX12_functionHere 42 = .ok (.iload 4, 2) := by decide +kernel
theorem dX12_functionHere_44 : decode cX12_functionHere 44 = .ok (.iadd, 1) := by decide +kernel
theorem dX12_functionHere_45 : decode cX12_functionHere 45 = .ok (.invokevirtual 64, 3) := by decide +kernel
theorem dX12_functionHere_48 : decode cX12_functionHere 48 = .ok (.aload_n 0, 1) := by decide +kernel
theorem dX12_functionHere_49 : decode cX12_functionHere 49 = .ok (.getfield 112, 3) := by decide +kernel
theorem dX12_functionHere_52 : decode cX12_functionHere 52 = .ok (.iload_n 1, 1) := by decide +kernel
theorem dX12_functionHere_53 : decode cX12_functionHere 53 = .ok (.iload 4, 2) := by decide +kernel
theorem dX12_functionHere_55 : decode cX12_functionHere 55 = .ok (.iadd, 1) := by decide +kernel
theorem dX12_functionHere_56 : decode cX12_functionHere 56 = .ok (.caload, 1) := by decide +kernel
theorem dX12_functionHere_57 : decode cX12_functionHere 57 = .ok (.if_icmp .ne 7, 3) := by decide +kernel
theorem dX12_functionHere_60 : decode cX12_functionHere 60 = .ok (.iconst 1, 1) := by decide +kernel
theorem dX12_functionHere_61 : decode cX12_functionHere 61 = .ok (.goto 4, 3) := by decide +kernel
theorem dX12_functionHere_64 : decode cX12_functionHere 64 = .ok (.iconst 0, 1) := by decide +kernel
theorem dX12_functionHere_65 : decode cX12_functionHere 65 = .ok (.istore 5, 2) := by decide +kernel
theorem dX12_functionHere_67 : decode cX12_functionHere 67 = .ok (.iinc 4 1, 3) := by decide +kernel
theorem dX12_functionHere_70 : decode cX12_functionHere 70 = .ok (.goto (-52), 3) := by decide +kernel
theorem dX12_functionHere_73 : decode cX12_functionHere 73 = .ok (.iload 5, 2) := by decide +kernel
theorem dX12_functionHere_75 : decode cX12_functionHere 75 = .ok (.ifCond .eq 19, 3) := by decide +kernel
theorem dX12_functionHere_78 : decode cX12_functionHere 78 = .ok (.iload 4, 2) := by decide +kernel
theorem dX12_functionHere_80 : decode cX12_functionHere 80 = .ok (.aload_n 0, 1) := by decide +kernel
theorem dX12_functionHere_81 : decode cX12_functionHere 81 = .ok (.getfield 61, 3) := by decide +kernel
theorem dX12_functionHere_84 : decode cX12_functionHere 84 = .ok (.aload_n 0, 1) := by decide +kernel
theorem dX12_functionHere_85 : decode cX12_functionHere 85 = .ok (.getfield 58, 3) := by decide +kernel
theorem dX12_functionHere_88 : decode cX12_functionHere 88 = .ok (.isub, 1) := by decide +kernel
theorem dX12_functionHere_89 : decode cX12_functionHere 89 = .ok (.if_icmp .ne 5, 3) := by decide +kernel
theorem dX12_functionHere_92 : decode cX12_functionHere 92 = .ok (.iload_n 3, 1) := by decide +kernel
theorem dX12_functionHere_93 : decode cX12_functionHere 93 = .ok (.istore_n 2, 1) := by decide +kernel
theorem dX12_functionHere_94 : decode cX12_functionHere 94 = .ok (.iload_n 1, 1) := by decide +kernel
theorem dX12_functionHere_95 : decode cX12_functionHere 95 = .ok (.iload 4, 2) := by decide +kernel
theorem dX12_functionHere_97 : decode cX12_functionHere 97 = .ok (.iconst 1, 1) := by decide +kernel
theorem dX12_functionHere_98 : decode cX12_functionHere 98 = .ok (.iadd, 1) := by decide +kernel
theorem dX12_functionHere_99 : decode cX12_functionHere 99 = .ok (.iadd, 1) := by decide +kernel
theorem dX12_functionHere_100 : decode cX12_functionHere 100 = .ok (.istore_n 1, 1) := by decide +kernel
theorem dX12_functionHere_101 : decode cX12_functionHere 101 = .ok (.iinc 3 1, 3) := by decide +kernel
theorem dX12_functionHere_104 : decode cX12_functionHere 104 = .ok (.goto (-98), 3) := by decide +kernel
theorem dX12_functionHere_107 : decode cX12_functionHere 107 = .ok (.iload_n 2, 1) := by decide +kernel
theorem dX12_functionHere_108 : decode cX12_functionHere 108 = .ok (.ireturn, 1) := by decide +kernel
theorem dX12_paramHere_0 : decode cX12_paramHere 0 = .ok (.iconst 0, 1) := by decide +kernel
theorem dX12_paramHere_1 : decode cX12_paramHere 1 = .ok (.istore_n 1, 1) := by decide +kernel
theorem dX12_paramHere_2 : decode cX12_paramHere 2 = .ok (.iload_n 1, 1) := by decide +kernel
theorem dX12_paramHere_3 : decode cX12_paramHere 3 = .ok (.aload_n 0, 1) := by decide +kernel
theorem dX12_paramHere_4 : decode cX12_paramHere 4 = .ok (.getfield 116, 3) := by decide +kernel
theorem dX12_paramHere_7 : decode cX12_paramHere 7 = .ok (.if_icmp .ge 39, 3) := by decide +kernel
theorem dX12_paramHere_10 : decode cX12_paramHere 10 = .ok (.aload_n 0, 1) := by decide +kernel
theorem dX12_paramHere_11 : decode cX12_paramHere 11 = .ok (.getfield 119, 3) := by decide +kernel
theorem dX12_paramHere_14 : decode cX12_paramHere 14 = .ok (.iload_n 1, 1) := by decide +kernel
theorem dX12_paramHere_15 : decode cX12_paramHere 15 = .ok (.laload, 1) := by decide +kernel
theorem dX12_paramHere_16 : decode cX12_paramHere 16 = .ok (.aload_n 0, 1) := by decide +kernel
theorem dX12_paramHere_17 : decode cX12_paramHere 17 = .ok (.getfield 93, 3) := by decide +kernel
theorem dX12_paramHere_20 : decode cX12_paramHere 20 = .ok (.lcmp, 1) := by decide +kernel
theorem dX12_paramHere_21 : decode cX12_paramHere 21 = .ok (.ifCond .ne 19, 3) := by decide +kernel
theorem dX12_paramHere_24 : decode cX12_paramHere 24 = .ok (.aload_n 0, 1) := by decide +kernel
theorem dX12_paramHere_25 : decode cX12_paramHere 25 = .ok (.getfield 123, 3) := by decide +kernel
theorem dX12_paramHere_28 : decode cX12_paramHere 28 = .ok (.iload_n 1, 1) := by decide +kernel
theorem dX12_paramHere_29 : decode cX12_paramHere 29 = .ok (.laload, 1) := by decide +kernel
theorem dX12_paramHere_30 : decode cX12_paramHere 30 = .ok (.aload_n 0, 1) := by decide +kernel
theorem dX12_paramHere_31 : decode cX12_paramHere 31 = .ok (.getfield 97, 3) := by decide +kernel
theorem dX12_paramHere_34 : decode cX12_paramHere 34 = .ok (.lcmp, 1) := by decide +kernel
theorem dX12_paramHere_35 : decode cX12_paramHere 35 = .ok (.ifCond .ne 5, 3) := by decide +kernel
theorem dX12_paramHere_38 : decode cX12_paramHere 38 = .ok (.iload_n 1, 1) := by decide +kernel
theorem dX12_paramHere_39 : decode cX12_paramHere 39 = .ok (.ireturn, 1) := by decide +kernel
theorem dX12_paramHere_40 : decode cX12_paramHere 40 = .ok (.iinc 1 1, 3) := by decide +kernel
theorem dX12_paramHere_43 : decode cX12_paramHere 43 = .ok (.goto (-41), 3) := by decide +kernel
theorem dX12_paramHere_46 : decode cX12_paramHere 46 = .ok (.iconst (-1), 1) := by decide +kernel
theorem dX12_paramHere_47 : decode cX12_paramHere 47 = .ok (.ireturn, 1) := by decide +kernel
theorem dX12_definitionHere_0 : decode cX12_definitionHere 0 = .ok (.iconst 0, 1) := by decide +kernel
theorem dX12_definitionHere_1 : decode cX12_definitionHere 1 = .ok (.istore_n 1, 1) := by decide +kernel
theorem dX12_definitionHere_2 : decode cX12_definitionHere 2 = .ok (.iload_n 1, 1) := by decide +kernel
theorem dX12_definitionHere_3 : decode cX12_definitionHere 3 = .ok (.aload_n 0, 1) := by decide +kernel
theorem dX12_definitionHere_4 : decode cX12_definitionHere 4 = .ok (.getfield 126, 3) := by decide +kernel
theorem dX12_definitionHere_7 : decode cX12_definitionHere 7 = .ok (.if_icmp .ge 54, 3) := by decide +kernel
theorem dX12_definitionHere_10 : decode cX12_definitionHere 10 = .ok (.aload_n 0, 1) := by decide +kernel
theorem dX12_definitionHere_11 : decode cX12_definitionHere 11 = .ok (.getfield 129, 3) := by decide +kernel
theorem dX12_definitionHere_14 : decode cX12_definitionHere 14 = .ok (.aload_n 0, 1) := by decide +kernel
theorem dX12_definitionHere_15 : decode cX12_definitionHere 15 = .ok (.getfield 132, 3) := by decide +kernel
theorem dX12_definitionHere_18 : decode cX12_definitionHere 18 = .ok (.iload_n 1, 1) := by decide +kernel
theorem dX12_definitionHere_19 : decode cX12_definitionHere 19 = .ok (.iaload, 1) := by decide +kernel
theorem dX12_definitionHere_20 : decode cX12_definitionHere 20 = .ok (.laload, 1) := by decide +kernel
theorem dX12_definitionHere_21 : decode cX12_definitionHere 21 = .ok (.aload_n 0, 1) := by decide +kernel
theorem dX12_definitionHere_22 : decode cX12_definitionHere 22 = .ok (.getfield 93, 3) := by decide +kernel
theorem dX12_definitionHere_25 : decode cX12_definitionHere 25 = .ok (.lcmp, 1) := by decide +kernel
theorem dX12_definitionHere_26 : decode cX12_definitionHere 26 = .ok (.ifCond .ne 29, 3) := by decide +kernel
theorem dX12_definitionHere_29 : decode cX12_definitionHere 29 = .ok (.aload_n 0, 1) := by decide +kernel
theorem dX12_definitionHere_30 : decode cX12_definitionHere 30 = .ok (.getfield 135, 3) := by decide +kernel
theorem dX12_definitionHere_33 : decode cX12_definitionHere 33 = .ok (.aload_n 0, 1) := by decide +kernel
theorem dX12_definitionHere_34 : decode cX12_definitionHere 34 = .ok (.getfield 132, 3) := by decide +kernel
theorem dX12_definitionHere_37 : decode cX12_definitionHere 37 = .ok (.iload_n 1, 1) := by decide +kernel
theorem dX12_definitionHere_38 : decode cX12_definitionHere 38 = .ok (.iaload, 1) := by decide +kernel
theorem dX12_definitionHere_39 : decode cX12_definitionHere 39 = .ok (.laload, 1) := by decide +kernel
theorem dX12_definitionHere_40 : decode cX12_definitionHere 40 = .ok (.aload_n 0, 1) := by decide +kernel
theorem dX12_definitionHere_41 : decode cX12_definitionHere 41 = .ok (.getfield 97, 3) := by decide +kernel
theorem dX12_definitionHere_44 : decode cX12_definitionHere 44 = .ok (.lcmp, 1) := by decide +kernel
theorem dX12_definitionHere_45 : decode cX12_definitionHere 45 = .ok (.ifCond .ne 10, 3) := by decide +kernel
theorem dX12_definitionHere_48 : decode cX12_definitionHere 48 = .ok (.aload_n 0, 1) := by decide +kernel
theorem dX12_definitionHere_49 : decode cX12_definitionHere 49 = .ok (.getfield 132, 3) := by decide +kernel
theorem dX12_definitionHere_52 : decode cX12_definitionHere 52 = .ok (.iload_n 1, 1) := by decide +kernel
theorem dX12_definitionHere_53 : decode cX12_definitionHere 53 = .ok (.iaload, 1) := by decide +kernel
theorem dX12_definitionHere_54 : decode cX12_definitionHere 54 = .ok (.ireturn, 1) := by decide +kernel
theorem dX12_definitionHere_55 : decode cX12_definitionHere 55 = .ok (.iinc 1 1, 3) := by decide +kernel
theorem dX12_definitionHere_58 : decode cX12_definitionHere 58 = .ok (.goto (-56), 3) := by decide +kernel
theorem dX12_definitionHere_61 : decode cX12_definitionHere 61 = .ok (.iconst (-1), 1) := by decide +kernel
theorem dX12_definitionHere_62 : decode cX12_definitionHere 62 = .ok (.ireturn, 1) := by decide +kernel
theorem dX12_begin_0 : decode cX12_begin 0 = .ok (.aload_n 0, 1) := by decide +kernel
theorem dX12_begin_1 : decode cX12_begin 1 = .ok (.getfield 138, 3) := by decide +kernel
theorem dX12_begin_4 : decode cX12_begin 4 = .ok (.aload_n 0, 1) := by decide +kernel
theorem dX12_begin_5 : decode cX12_begin 5 = .ok (.getfield 141, 3) := by decide +kernel
theorem dX12_begin_8 : decode cX12_begin 8 = .ok (.iload_n 1, 1) := by decide +kernel
theorem dX12_begin_9 : decode cX12_begin 9 = .ok (.iastore, 1) := by decide +kernel
theorem dX12_begin_10 : decode cX12_begin 10 = .ok (.aload_n 0, 1) := by decide +kernel
theorem dX12_begin_11 : decode cX12_begin 11 = .ok (.getfield 144, 3) := by decide +kernel
theorem dX12_begin_14 : decode cX12_begin 14 = .ok (.aload_n 0, 1) := by decide +kernel
theorem dX12_begin_15 : decode cX12_begin 15 = .ok (.getfield 141, 3) := by decide +kernel
theorem dX12_begin_18 : decode cX12_begin 18 = .ok (.iload_n 2, 1) := by decide +kernel
theorem dX12_begin_19 : decode cX12_begin 19 = .ok (.iastore, 1) := by decide +kernel
theorem dX12_begin_20 : decode cX12_begin 20 = .ok (.aload_n 0, 1) := by decide +kernel
theorem dX12_begin_21 : decode cX12_begin 21 = .ok (.getfield 147, 3) := by decide +kernel
theorem dX12_begin_24 : decode cX12_begin 24 = .ok (.aload_n 0, 1) := by decide +kernel
theorem dX12_begin_25 : decode cX12_begin 25 = .ok (.getfield 141, 3) := by decide +kernel
theorem dX12_begin_28 : decode cX12_begin 28 = .ok (.iconst 0, 1) := by decide +kernel
theorem dX12_begin_29 : decode cX12_begin 29 = .ok (.iastore, 1) := by decide +kernel
theorem dX12_begin_30 : decode cX12_begin 30 = .ok (.aload_n 0, 1) := by decide +kernel
theorem dX12_begin_31 : decode cX12_begin 31 = .ok (.getfield 150, 3) := by decide +kernel
theorem dX12_begin_34 : decode cX12_begin 34 = .ok (.aload_n 0, 1) := by decide +kernel
theorem dX12_begin_35 : decode cX12_begin 35 = .ok (.getfield 141, 3) := by decide +kernel
theorem dX12_begin_38 : decode cX12_begin 38 = .ok (.iload_n 3, 1) := by decide +kernel
theorem dX12_begin_39 : decode cX12_begin 39 = .ok (.iastore, 1) := by decide +kernel
theorem dX12_begin_40 : decode cX12_begin 40 = .ok (.aload_n 0, 1) := by decide +kernel
theorem dX12_begin_41 : decode cX12_begin 41 = .ok (.dup, 1) := by decide +kernel
theorem dX12_begin_42 : decode cX12_begin 42 = .ok (.getfield 141, 3) := by decide +kernel
theorem dX12_begin_45 : decode cX12_begin 45 = .ok (.iconst 1, 1) := by decide +kernel
theorem dX12_begin_46 : decode cX12_begin 46 = .ok (.iadd, 1) := by decide +kernel
theorem dX12_begin_47 : decode cX12_begin 47 = .ok (.putfield 141, 3) := by decide +kernel
theorem dX12_begin_50 : decode cX12_begin 50 = .ok (.return_, 1) := by decide +kernel
theorem dX12_finish_0 : decode cX12_finish 0 = .ok (.aload_n 0, 1) := by decide +kernel
theorem dX12_finish_1 : decode cX12_finish 1 = .ok (.iload_n 1, 1) := by decide +kernel
theorem dX12_finish_2 : decode cX12_finish 2 = .ok (.putfield 153, 3) := by decide +kernel
theorem dX12_finish_5 : decode cX12_finish 5 = .ok (.aload_n 0, 1) := by decide +kernel
theorem dX12_finish_6 : decode cX12_finish 6 = .ok (.dup, 1) := by decide +kernel
theorem dX12_finish_7 : decode cX12_finish 7 = .ok (.getfield 141, 3) := by decide +kernel
theorem dX12_finish_10 : decode cX12_finish 10 = .ok (.iconst 1, 1) := by decide +kernel
theorem dX12_finish_11 : decode cX12_finish 11 = .ok (.isub, 1) := by decide +kernel
theorem dX12_finish_12 : decode cX12_finish 12 = .ok (.putfield 141, 3) := by decide +kernel
theorem dX12_finish_15 : decode cX12_finish 15 = .ok (.return_, 1) := by decide +kernel
theorem dX12_readExp_0 : decode cX12_readExp 0 = .ok (.aload_n 0, 1) := by decide +kernel
theorem dX12_readExp_1 : decode cX12_readExp 1 = .ok (.iconst 0, 1) := by decide +kernel
theorem dX12_readExp_2 : decode cX12_readExp 2 = .ok (.putfield 141, 3) := by decide +kernel
theorem dX12_readExp_5 : decode cX12_readExp 5 = .ok (.aload_n 0, 1) := by decide +kernel
theorem dX12_readExp_6 : decode cX12_readExp 6 = .ok (.iconst 0, 1) := by decide +kernel
theorem dX12_readExp_7 : decode cX12_readExp 7 = .ok (.putfield 156, 3) := by decide +kernel
theorem dX12_readExp_10 : decode cX12_readExp 10 = .ok (.aload_n 0, 1) := by decide +kernel
theorem dX12_readExp_11 : decode cX12_readExp 11 = .ok (.iconst 1, 1) := by decide +kernel
theorem dX12_readExp_12 : decode cX12_readExp 12 = .ok (.iconst (-1), 1) := by decide +kernel
theorem dX12_readExp_13 : decode cX12_readExp 13 = .ok (.iconst 0, 1) := by decide +kernel
theorem dX12_readExp_14 : decode cX12_readExp 14 = .ok (.invokevirtual 159, 3) := by decide +kernel
theorem dX12_readExp_17 : decode cX12_readExp 17 = .ok (.aload_n 0, 1) := by decide +kernel
theorem dX12_readExp_18 : decode cX12_readExp 18 = .ok (.getfield 141, 3) := by decide +kernel
theorem dX12_readExp_21 : decode cX12_readExp 21 = .ok (.ifCond .le 187, 3) := by decide +kernel
theorem dX12_readExp_24 : decode cX12_readExp 24 = .ok (.aload_n 0, 1) := by decide +kernel
theorem dX12_readExp_25 : decode cX12_readExp 25 = .ok (.getfield 41, 3) := by decide +kernel
theorem dX12_readExp_28 : decode cX12_readExp 28 = .ok (.ifCond .ne 180, 3) := by decide +kernel
theorem dX12_readExp_31 : decode cX12_readExp 31 = .ok (.aload_n 0, 1) := by decide +kernel
theorem dX12_readExp_32 : decode cX12_readExp 32 = .ok (.getfield 141, 3) := by decide +kernel
theorem dX12_readExp_35 : decode cX12_readExp 35 = .ok (.iconst 1, 1) := by decide +kernel
theorem dX12_readExp_36 : decode cX12_readExp 36 = .ok (.isub, 1) := by decide +kernel
theorem dX12_readExp_37 : decode cX12_readExp 37 = .ok (.istore_n 1, 1) := by decide +kernel
theorem dX12_readExp_38 : decode cX12_readExp 38 = .ok (.aload_n 0, 1) := by decide +kernel
theorem dX12_readExp_39 : decode cX12_readExp 39 = .ok (.getfield 138, 3) := by decide +kernel
theorem dX12_readExp_42 : decode cX12_readExp 42 = .ok (.iload_n 1, 1) := by decide +kernel
theorem dX12_readExp_43 : decode cX12_readExp 43 = .ok (.iaload, 1) := by decide +kernel
theorem dX12_readExp_44 : decode cX12_readExp 44 = .ok (.tableswitch 156 1 11 #[60, 72, 84, 92, 100, 108, 116, 124, 132, 140, 148], 60) := by decide +kernel
theorem dX12_readExp_104 : decode cX12_readExp 104 = .ok (.aload_n 0, 1) := by decide +kernel
theorem dX12_readExp_105 : decode cX12_readExp 105 = .ok (.iload_n 1, 1) := by decide +kernel
theorem dX12_readExp_106 : decode cX12_readExp 106 = .ok (.bipush 38, 2) := by decide +kernel
theorem dX12_readExp_108 : decode cX12_readExp 108 = .ok (.iconst 1, 1) := by decide +kernel
theorem dX12_readExp_109 : decode cX12_readExp 109 = .ok (.iconst 2, 1) := by decide +kernel
theorem dX12_readExp_110 : decode cX12_readExp 110 = .ok (.invokevirtual 163, 3) := by decide +kernel
theorem dX12_readExp_113 : decode cX12_readExp 113 = .ok (.goto 92, 3) := by decide +kernel
theorem dX12_readExp_116 : decode cX12_readExp 116 = .ok (.aload_n 0, 1) := by decide +kernel
theorem dX12_readExp_117 : decode cX12_readExp 117 = .ok (.iload_n 1, 1) := by decide +kernel
theorem dX12_readExp_118 : decode cX12_readExp 118 = .ok (.bipush 59, 2) := by decide +kernel
theorem dX12_readExp_120 : decode cX12_readExp 120 = .ok (.iconst 2, 1) := by decide +kernel
theorem dX12_readExp_121 : decode cX12_readExp 121 = .ok (.iconst 3, 1) := by decide +kernel
theorem dX12_readExp_122 : decode cX12_readExp 122 = .ok (.invokevirtual 163, 3) := by decide +kernel
theorem dX12_readExp_125 : decode cX12_readExp 125 = .ok (.goto 80, 3) := by decide +kernel
theorem dX12_readExp_128 : decode cX12_readExp 128 = .ok (.aload_n 0, 1) := by decide +kernel
theorem dX12_readExp_129 : decode cX12_readExp 129 = .ok (.iload_n 1, 1) := by decide +kernel
theorem dX12_readExp_130 : decode cX12_readExp 130 = .ok (.invokevirtual 167, 3) := by decide +kernel
theorem dX12_readExp_133 : decode cX12_readExp 133 = .ok (.goto 72, 3) := by decide +kernel
theorem dX12_readExp_136 : decode cX12_readExp 136 = .ok (.aload_n 0, 1) := by decide +kernel
theorem dX12_readExp_137 : decode cX12_readExp 137 = .ok (.iload_n 1, 1) := by decide +kernel
theorem dX12_readExp_138 : decode cX12_readExp 138 = .ok (.invokevirtual 170, 3) := by decide +kernel
theorem dX12_readExp_141 : decode cX12_readExp 141 = .ok (.goto 64, 3) := by decide +kernel
theorem dX12_readExp_144 : decode cX12_readExp 144 = .ok (.aload_n 0, 1) := by decide +kernel
theorem dX12_readExp_145 : decode cX12_readExp 145 = .ok (.iload_n 1, 1) := by decide +kernel
theorem dX12_readExp_146 : decode cX12_readExp 146 = .ok (.invokevirtual 173, 3) := by decide +kernel
theorem dX12_readExp_149 : decode cX12_readExp 149 = .ok (.goto 56, 3) := by decide +kernel
theorem dX12_readExp_152 : decode cX12_readExp 152 = .ok (.aload_n 0, 1) := by decide +kernel
theorem dX12_readExp_153 : decode cX12_readExp 153 = .ok (.iload_n 1, 1) := by decide +kernel
theorem dX12_readExp_154 : decode cX12_readExp 154 = .ok (.invokevirtual 176, 3) := by decide +kernel
theorem dX12_readExp_157 : decode cX12_readExp 157 = .ok (.goto 48, 3) := by decide +kernel
theorem dX12_readExp_160 : decode cX12_readExp 160 = .ok (.aload_n 0, 1) := by decide +kernel
theorem dX12_readExp_161 : decode cX12_readExp 161 = .ok (.iload_n 1, 1) := by decide +kernel
theorem dX12_readExp_162 : decode cX12_readExp 162 = .ok (.invokevirtual 179, 3) := by decide +kernel
theorem dX12_readExp_165 : decode cX12_readExp 165 = .ok (.goto 40, 3) := by decide +kernel
theorem dX12_readExp_168 : decode cX12_readExp 168 = .ok (.aload_n 0, 1) := by decide +kernel
theorem dX12_readExp_169 : decode cX12_readExp 169 = .ok (.iload_n 1, 1) := by decide +kernel
theorem dX12_readExp_170 : decode cX12_readExp 170 = .ok (.invokevirtual 182, 3) := by decide +kernel
theorem dX12_readExp_173 : decode cX12_readExp 173 = .ok (.goto 32, 3) := by decide +kernel
theorem dX12_readExp_176 : decode cX12_readExp 176 = .ok (.aload_n 0, 1) := by decide +kernel
theorem dX12_readExp_177 : decode cX12_readExp 177 = .ok (.iload_n 1, 1) := by decide +kernel
theorem dX12_readExp_178 : decode cX12_readExp 178 = .ok (.invokevirtual 185, 3) := by decide +kernel
theorem dX12_readExp_181 : decode cX12_readExp 181 = .ok (.goto 24, 3) := by decide +kernel
theorem dX12_readExp_184 : decode cX12_readExp 184 = .ok (.aload_n 0, 1) := by decide +kernel
theorem dX12_readExp_185 : decode cX12_readExp 185 = .ok (.iload_n 1, 1) := by decide +kernel
theorem dX12_readExp_186 : decode cX12_readExp 186 = .ok (.invokevirtual 188, 3) := by decide +kernel
theorem dX12_readExp_189 : decode cX12_readExp 189 = .ok (.goto 16, 3) := by decide +kernel
theorem dX12_readExp_192 : decode cX12_readExp 192 = .ok (.aload_n 0, 1) := by decide +kernel
theorem dX12_readExp_193 : decode cX12_readExp 193 = .ok (.iload_n 1, 1) := by decide +kernel
theorem dX12_readExp_194 : decode cX12_readExp 194 = .ok (.invokevirtual 191, 3) := by decide +kernel
theorem dX12_readExp_197 : decode cX12_readExp 197 = .ok (.goto 8, 3) := by decide +kernel
theorem dX12_readExp_200 : decode cX12_readExp 200 = .ok (.aload_n 0, 1) := by decide +kernel
theorem dX12_readExp_201 : decode cX12_readExp 201 = .ok (.iload_n 1, 1) := by decide +kernel
theorem dX12_readExp_202 : decode cX12_readExp 202 = .ok (.invokevirtual 194, 3) := by decide +kernel
theorem dX12_readExp_205 : decode cX12_readExp 205 = .ok (.goto (-188), 3) := by decide +kernel
theorem dX12_readExp_208 : decode cX12_readExp 208 = .ok (.return_, 1) := by decide +kernel
theorem dX12_readRow_0 : decode cX12_readRow 0 = .ok (.aload_n 0, 1) := by decide +kernel
theorem dX12_readRow_1 : decode cX12_readRow 1 = .ok (.getfield 147, 3) := by decide +kernel
theorem dX12_readRow_4 : decode cX12_readRow 4 = .ok (.iload_n 1, 1) := by decide +kernel
theorem dX12_readRow_5 : decode cX12_readRow 5 = .ok (.iaload, 1) := by decide +kernel
theorem dX12_readRow_6 : decode cX12_readRow 6 = .ok (.ifCond .ne 19, 3) := by decide +kernel
theorem dX12_readRow_9 : decode cX12_readRow 9 = .ok (.aload_n 0, 1) := by decide +kernel
theorem dX12_readRow_10 : decode cX12_readRow 10 = .ok (.getfield 147, 3) := by decide +kernel
theorem dX12_readRow_13 : decode cX12_readRow 13 = .ok (.iload_n 1, 1) := by decide +kernel
theorem dX12_readRow_14 : decode cX12_readRow 14 = .ok (.iconst 1, 1) := by decide +kernel
theorem dX12_readRow_15 : decode cX12_readRow 15 = .ok (.iastore, 1) := by decide +kernel
theorem dX12_readRow_16 : decode cX12_readRow 16 = .ok (.aload_n 0, 1) := by decide +kernel
theorem dX12_readRow_17 : decode cX12_readRow 17 = .ok (.iload 4, 2) := by decide +kernel
theorem dX12_readRow_19 : decode cX12_readRow 19 = .ok (.iconst (-1), 1) := by decide +kernel
theorem dX12_readRow_20 : decode cX12_readRow 20 = .ok (.iconst 0, 1) := by decide +kernel
theorem dX12_readRow_21 : decode cX12_readRow 21 = .ok (.invokevirtual 159, 3) := by decide +kernel
theorem dX12_readRow_24 : decode cX12_readRow 24 = .ok (.return_, 1) := by decide +kernel
theorem dX12_readRow_25 : decode cX12_readRow 25 = .ok (.aload_n 0, 1) := by decide +kernel
theorem dX12_readRow_26 : decode cX12_readRow 26 = .ok (.iload_n 2, 1) := by decide +kernel
theorem dX12_readRow_27 : decode cX12_readRow 27 = .ok (.invokevirtual 197, 3) := by decide +kernel
theorem dX12_readRow_30 : decode cX12_readRow 30 = .ok (.istore 5, 2) := by decide +kernel
theorem dX12_readRow_32 : decode cX12_readRow 32 = .ok (.aload_n 0, 1) := by decide +kernel
theorem dX12_readRow_33 : decode cX12_readRow 33 = .ok (.getfield 144, 3) := by decide +kernel
theorem dX12_readRow_36 : decode cX12_readRow 36 = .ok (.iload_n 1, 1) := by decide +kernel
theorem dX12_readRow_37 : decode cX12_readRow 37 = .ok (.iaload, 1) := by decide +kernel
theorem dX12_readRow_38 : decode cX12_readRow 38 = .ok (.iconst (-1), 1) := by decide +kernel
theorem dX12_readRow_39 : decode cX12_readRow 39 = .ok (.if_icmp .ne 32, 3) := by decide +kernel
theorem dX12_readRow_42 : decode cX12_readRow 42 = .ok (.iload 5, 2) := by decide +kernel
theorem dX12_readRow_44 : decode cX12_readRow 44 = .ok (.ifCond .ne 12, 3) := by decide +kernel
theorem dX12_readRow_47 : decode cX12_readRow 47 = .ok (.aload_n 0, 1) := by decide +kernel
theorem dX12_readRow_48 : decode cX12_readRow 48 = .ok (.aload_n 0, 1) := by decide +kernel
theorem dX12_readRow_49 : decode cX12_readRow 49 = .ok (.getfield 153, 3) := by decide +kernel
theorem dX12_readRow_52 : decode cX12_readRow 52 = .ok (.invokevirtual 200, 3) := by decide +kernel
theorem dX12_readRow_55 : decode cX12_readRow 55 = .ok (.return_, 1) := by decide +kernel
theorem dX12_readRow_56 : decode cX12_readRow 56 = .ok (.aload_n 0, 1) := by decide +kernel
theorem dX12_readRow_57 : decode cX12_readRow 57 = .ok (.getfield 144, 3) := by decide +kernel
theorem dX12_readRow_60 : decode cX12_readRow 60 = .ok (.iload_n 1, 1) := by decide +kernel
theorem dX12_readRow_61 : decode cX12_readRow 61 = .ok (.aload_n 0, 1) := by decide +kernel
theorem dX12_readRow_62 : decode cX12_readRow 62 = .ok (.iload_n 3, 1) := by decide +kernel
theorem dX12_readRow_63 : decode cX12_readRow 63 = .ok (.aload_n 0, 1) := by decide +kernel
theorem dX12_readRow_64 : decode cX12_readRow 64 = .ok (.getfield 58, 3) := by decide +kernel
theorem dX12_readRow_67 : decode cX12_readRow 67 = .ok (.invokevirtual 203, 3) := by decide +kernel
theorem dX12_readRow_70 : decode cX12_readRow 70 = .ok (.iastore, 1) := by decide +kernel
theorem dX12_readRow_71 : decode cX12_readRow 71 = .ok (.aload_n 0, 1) := by decide +kernel
theorem dX12_readRow_72 : decode cX12_readRow 72 = .ok (.aload_n 0, 1) := by decide +kernel
theorem dX12_readRow_73 : decode cX12_readRow 73 = .ok (.getfield 144, 3) := by decide +kernel
theorem dX12_readRow_76 : decode cX12_readRow 76 = .ok (.iload_n 1, 1) := by decide +kernel
theorem dX12_readRow_77 : decode cX12_readRow 77 = .ok (.iaload, 1) := by decide +kernel
theorem dX12_readRow_78 : decode cX12_readRow 78 = .ok (.aload_n 0, 1) := by decide +kernel
theorem dX12_readRow_79 : decode cX12_readRow 79 = .ok (.getfield 153, 3) := by decide +kernel
theorem dX12_readRow_82 : decode cX12_readRow 82 = .ok (.invokevirtual 207, 3) := by decide +kernel
theorem dX12_readRow_85 : decode cX12_readRow 85 = .ok (.aload_n 0, 1) := by decide +kernel
theorem dX12_readRow_86 : decode cX12_readRow 86 = .ok (.getfield 14, 3) := by decide +kernel
theorem dX12_readRow_89 : decode cX12_readRow 89 = .ok (.aload_n 0, 1) := by decide +kernel
theorem dX12_readRow_90 : decode cX12_readRow 90 = .ok (.getfield 144, 3) := by decide +kernel
theorem dX12_readRow_93 : decode cX12_readRow 93 = .ok (.iload_n 1, 1) := by decide +kernel
theorem dX12_readRow_94 : decode cX12_readRow 94 = .ok (.iaload, 1) := by decide +kernel
theorem dX12_readRow_95 : decode cX12_readRow 95 = .ok (.dup2, 1) := by decide +kernel
theorem dX12_readRow_96 : decode cX12_readRow 96 = .ok (.iaload, 1) := by decide +kernel
theorem dX12_readRow_97 : decode cX12_readRow 97 = .ok (.iconst 1, 1) := by decide +kernel
theorem dX12_readRow_98 : decode cX12_readRow 98 = .ok (.iadd, 1) := by decide +kernel
theorem dX12_readRow_99 : decode cX12_readRow 99 = .ok (.iastore, 1) := by decide +kernel
theorem dX12_readRow_100 : decode cX12_readRow 100 = .ok (.iload 5, 2) := by decide +kernel
theorem dX12_readRow_102 : decode cX12_readRow 102 = .ok (.ifCond .ne 14, 3) := by decide +kernel
theorem dX12_readRow_105 : decode cX12_readRow 105 = .ok (.aload_n 0, 1) := by decide +kernel
theorem dX12_readRow_106 : decode cX12_readRow 106 = .ok (.aload_n 0, 1) := by decide +kernel
theorem dX12_readRow_107 : decode cX12_readRow 107 = .ok (.getfield 144, 3) := by decide +kernel
theorem dX12_readRow_110 : decode cX12_readRow 110 = .ok (.iload_n 1, 1) := by decide +kernel
theorem dX12_readRow_111 : decode cX12_readRow 111 = .ok (.iaload, 1) := by decide +kernel
theorem dX12_readRow_112 : decode cX12_readRow 112 = .ok (.invokevirtual 200, 3) := by decide +kernel
theorem dX12_readRow_115 : decode cX12_readRow 115 = .ok (.return_, 1) := by decide +kernel
theorem dX12_readRow_116 : decode cX12_readRow 116 = .ok (.aload_n 0, 1) := by decide +kernel
theorem dX12_readRow_117 : decode cX12_readRow 117 = .ok (.invokevirtual 211, 3) := by decide +kernel
theorem dX12_readRow_120 : decode cX12_readRow 120 = .ok (.aload_n 0, 1) := by decide +kernel
theorem dX12_readRow_121 : decode cX12_readRow 121 = .ok (.iload 4, 2) := by decide +kernel
theorem dX12_readRow_123 : decode cX12_readRow 123 = .ok (.iconst (-1), 1) := by decide +kernel
theorem dX12_readRow_124 : decode cX12_readRow 124 = .ok (.iconst 0, 1) := by decide +kernel
theorem dX12_readRow_125 : decode cX12_readRow 125 = .ok (.invokevirtual 159, 3) := by decide +kernel
theorem dX12_readRow_128 : decode cX12_readRow 128 = .ok (.return_, 1) := by decide +kernel
theorem dX12_readSum_0 : decode cX12_readSum 0 = .ok (.aload_n 0, 1) := by decide +kernel
theorem dX12_readSum_1 : decode cX12_readSum 1 = .ok (.getfield 147, 3) := by decide +kernel
theorem dX12_readSum_4 : decode cX12_readSum 4 = .ok (.iload_n 1, 1) := by decide +kernel
theorem dX12_readSum_5 : decode cX12_readSum 5 = .ok (.iaload, 1) := by decide +kernel
theorem dX12_readSum_6 : decode cX12_readSum 6 = .ok (.ifCond .ne 18, 3) := by decide +kernel
theorem dX12_readSum_9 : decode cX12_readSum 9 = .ok (.aload_n 0, 1) := by decide +kernel
theorem dX12_readSum_10 : decode cX12_readSum 10 = .ok (.getfield 147, 3) := by decide +kernel
theorem dX12_readSum_13 : decode cX12_readSum 13 = .ok (.iload_n 1, 1) := by decide +kernel
theorem dX12_readSum_14 : decode cX12_readSum 14 = .ok (.iconst 1, 1) := by decide +kernel
theorem dX12_readSum_15 : decode cX12_readSum 15 = .ok (.iastore, 1) := by decide +kernel
theorem dX12_readSum_16 : decode cX12_readSum 16 = .ok (.aload_n 0, 1) := by decide +kernel
theorem dX12_readSum_17 : decode cX12_readSum 17 = .ok (.iconst 4, 1) := by decide +kernel
theorem dX12_readSum_18 : decode cX12_readSum 18 = .ok (.iconst (-1), 1) := by decide +kernel
theorem dX12_readSum_19 : decode cX12_readSum 19 = .ok (.iconst 0, 1) := by decide +kernel
theorem dX12_readSum_20 : decode cX12_readSum 20 = .ok (.invokevirtual 159, 3) := by decide +kernel
theorem dX12_readSum_23 : decode cX12_readSum 23 = .ok (.return_, 1) := by decide +kernel
theorem dX12_readSum_24 : decode cX12_readSum 24 = .ok (.aload_n 0, 1) := by decide +kernel
theorem dX12_readSum_25 : decode cX12_readSum 25 = .ok (.invokevirtual 214, 3) := by decide +kernel
theorem dX12_readSum_28 : decode cX12_readSum 28 = .ok (.istore_n 2, 1) := by decide +kernel
theorem dX12_readSum_29 : decode cX12_readSum 29 = .ok (.aload_n 0, 1) := by decide +kernel
theorem dX12_readSum_30 : decode cX12_readSum 30 = .ok (.getfield 144, 3) := by decide +kernel
theorem dX12_readSum_33 : decode cX12_readSum 33 = .ok (.iload_n 1, 1) := by decide +kernel
theorem dX12_readSum_34 : decode cX12_readSum 34 = .ok (.iaload, 1) := by decide +kernel
theorem dX12_readSum_35 : decode cX12_readSum 35 = .ok (.iconst (-1), 1) := by decide +kernel
theorem dX12_readSum_36 : decode cX12_readSum 36 = .ok (.if_icmp .ne 61, 3) := by decide +kernel
theorem dX12_readSum_39 : decode cX12_readSum 39 = .ok (.iload_n 2, 1) := by decide +kernel
theorem dX12_readSum_40 : decode cX12_readSum 40 = .ok (.ifCond .ne 12, 3) := by decide +kernel
theorem dX12_readSum_43 : decode cX12_readSum 43 = .ok (.aload_n 0, 1) := by decide +kernel
theorem dX12_readSum_44 : decode cX12_readSum 44 = .ok (.aload_n 0, 1) := by decide +kernel
theorem dX12_readSum_45 : decode cX12_readSum 45 = .ok (.getfield 153, 3) := by decide +kernel
theorem dX12_readSum_48 : decode cX12_readSum 48 = .ok (.invokevirtual 200, 3) := by decide +kernel
theorem dX12_readSum_51 : decode cX12_readSum 51 = .ok (.return_, 1) := by decide +kernel
theorem dX12_readSum_52 : decode cX12_readSum 52 = .ok (.aload_n 0, 1) := by decide +kernel
theorem dX12_readSum_53 : decode cX12_readSum 53 = .ok (.getfield 144, 3) := by decide +kernel
theorem dX12_readSum_56 : decode cX12_readSum 56 = .ok (.iload_n 1, 1) := by decide +kernel
theorem dX12_readSum_57 : decode cX12_readSum 57 = .ok (.aload_n 0, 1) := by decide +kernel
theorem dX12_readSum_58 : decode cX12_readSum 58 = .ok (.iconst 3, 1) := by decide +kernel
theorem dX12_readSum_59 : decode cX12_readSum 59 = .ok (.aload_n 0, 1) := by decide +kernel
theorem dX12_readSum_60 : decode cX12_readSum 60 = .ok (.getfield 58, 3) := by decide +kernel
theorem dX12_readSum_63 : decode cX12_readSum 63 = .ok (.invokevirtual 203, 3) := by decide +kernel
theorem dX12_readSum_66 : decode cX12_readSum 66 = .ok (.iastore, 1) := by decide +kernel
theorem dX12_readSum_67 : decode cX12_readSum 67 = .ok (.aload_n 0, 1) := by decide +kernel
theorem dX12_readSum_68 : decode cX12_readSum 68 = .ok (.iconst 4, 1) := by decide +kernel
theorem dX12_readSum_69 : decode cX12_readSum 69 = .ok (.iconst (-1), 1) := by decide +kernel
theorem dX12_readSum_70 : decode cX12_readSum 70 = .ok (.invokevirtual 203, 3) := by decide +kernel
theorem dX12_readSum_73 : decode cX12_readSum 73 = .ok (.istore_n 3, 1) := by decide +kernel
theorem dX12_readSum_74 : decode cX12_readSum 74 = .ok (.aload_n 0, 1) := by decide +kernel
theorem dX12_readSum_75 : decode cX12_readSum 75 = .ok (.iload_n 3, 1) := by decide +kernel
theorem dX12_readSum_76 : decode cX12_readSum 76 = .ok (.aload_n 0, 1) := by decide +kernel
theorem dX12_readSum_77 : decode cX12_readSum 77 = .ok (.getfield 153, 3) := by decide +kernel
theorem dX12_readSum_80 : decode cX12_readSum 80 = .ok (.invokevirtual 207, 3) := by decide +kernel
theorem dX12_readSum_83 : decode cX12_readSum 83 = .ok (.aload_n 0, 1) := by decide +kernel
theorem dX12_readSum_84 : decode cX12_readSum 84 = .ok (.aload_n 0, 1) := by decide +kernel
theorem dX12_readSum_85 : decode cX12_readSum 85 = .ok (.getfield 144, 3) := by decide +kernel
theorem dX12_readSum_88 : decode cX12_readSum 88 = .ok (.iload_n 1, 1) := by decide +kernel
theorem dX12_readSum_89 : decode cX12_readSum 89 = .ok (.iaload, 1) := by decide +kernel
theorem dX12_readSum_90 : decode cX12_readSum 90 = .ok (.iload_n 3, 1) := by decide +kernel
theorem dX12_readSum_91 : decode cX12_readSum 91 = .ok (.invokevirtual 207, 3) := by decide +kernel
theorem dX12_readSum_94 : decode cX12_readSum 94 = .ok (.goto 22, 3) := by decide +kernel
theorem dX12_readSum_97 : decode cX12_readSum 97 = .ok (.aload_n 0, 1) := by decide +kernel
theorem dX12_readSum_98 : decode cX12_readSum 98 = .ok (.aload_n 0, 1) := by decide +kernel
theorem dX12_readSum_99 : decode cX12_readSum 99 = .ok (.getfield 32, 3) := by decide +kernel
theorem dX12_readSum_102 : decode cX12_readSum 102 = .ok (.aload_n 0, 1) := by decide +kernel
theorem dX12_readSum_103 : decode cX12_readSum 103 = .ok (.getfield 144, 3) := by decide +kernel
theorem dX12_readSum_106 : decode cX12_readSum 106 = .ok (.iload_n 1, 1) := by decide +kernel
theorem dX12_readSum_107 : decode cX12_readSum 107 = .ok (.iaload, 1) := by decide +kernel
theorem dX12_readSum_108 : decode cX12_readSum 108 = .ok (.iaload, 1) := by decide +kernel
theorem dX12_readSum_109 : decode cX12_readSum 109 = .ok (.aload_n 0, 1) := by decide +kernel
theorem dX12_readSum_110 : decode cX12_readSum 110 = .ok (.getfield 153, 3) := by decide +kernel
theorem dX12_readSum_113 : decode cX12_readSum 113 = .ok (.invokevirtual 207, 3) := by decide +kernel
theorem dX12_readSum_116 : decode cX12_readSum 116 = .ok (.iload_n 2, 1) := by decide +kernel
theorem dX12_readSum_117 : decode cX12_readSum 117 = .ok (.ifCond .ne 14, 3) := by decide +kernel
theorem dX12_readSum_120 : decode cX12_readSum 120 = .ok (.aload_n 0, 1) := by decide +kernel
theorem dX12_readSum_121 : decode cX12_readSum 121 = .ok (.aload_n 0, 1) := by decide +kernel
theorem dX12_readSum_122 : decode cX12_readSum 122 = .ok (.getfield 144, 3) := by decide +kernel
theorem dX12_readSum_125 : decode cX12_readSum 125 = .ok (.iload_n 1, 1) := by decide +kernel
theorem dX12_readSum_126 : decode cX12_readSum 126 = .ok (.iaload, 1) := by decide +kernel
theorem dX12_readSum_127 : decode cX12_readSum 127 = .ok (.invokevirtual 200, 3) := by decide +kernel
theorem dX12_readSum_130 : decode cX12_readSum 130 = .ok (.return_, 1) := by decide +kernel
theorem dX12_readSum_131 : decode cX12_readSum 131 = .ok (.aload_n 0, 1) := by decide +kernel
theorem dX12_readSum_132 : decode cX12_readSum 132 = .ok (.iconst 4, 1) := by decide +kernel
theorem dX12_readSum_133 : decode cX12_readSum 133 = .ok (.aload_n 0, 1) := by decide +kernel
theorem dX12_readSum_134 : decode cX12_readSum 134 = .ok (.getfield 58, 3) := by decide +kernel
theorem dX12_readSum_137 : decode cX12_readSum 137 = .ok (.invokevirtual 203, 3) := by decide +kernel
theorem dX12_readSum_140 : decode cX12_readSum 140 = .ok (.istore_n 3, 1) := by decide +kernel
theorem dX12_readSum_141 : decode cX12_readSum 141 = .ok (.aload_n 0, 1) := by decide +kernel
theorem dX12_readSum_142 : decode cX12_readSum 142 = .ok (.getfield 14, 3) := by decide +kernel
theorem dX12_readSum_145 : decode cX12_readSum 145 = .ok (.iload_n 3, 1) := by decide +kernel
theorem dX12_readSum_146 : decode cX12_readSum 146 = .ok (.aload_n 0, 1) := by decide +kernel
theorem dX12_readSum_147 : decode cX12_readSum 147 = .ok (.getfield 90, 3) := by decide +kernel
theorem dX12_readSum_150 : decode cX12_readSum 150 = .ok (.iastore, 1) := by decide +kernel
theorem dX12_readSum_151 : decode cX12_readSum 151 = .ok (.aload_n 0, 1) := by decide +kernel
theorem dX12_readSum_152 : decode cX12_readSum 152 = .ok (.aload_n 0, 1) := by decide +kernel
theorem dX12_readSum_153 : decode cX12_readSum 153 = .ok (.getfield 144, 3) := by decide +kernel
theorem dX12_readSum_156 : decode cX12_readSum 156 = .ok (.iload_n 1, 1) := by decide +kernel
theorem dX12_readSum_157 : decode cX12_readSum 157 = .ok (.iaload, 1) := by decide +kernel
theorem dX12_readSum_158 : decode cX12_readSum 158 = .ok (.iload_n 3, 1) := by decide +kernel
theorem dX12_readSum_159 : decode cX12_readSum 159 = .ok (.invokevirtual 207, 3) := by decide +kernel
theorem dX12_readSum_162 : decode cX12_readSum 162 = .ok (.aload_n 0, 1) := by decide +kernel
theorem dX12_readSum_163 : decode cX12_readSum 163 = .ok (.invokevirtual 211, 3) := by decide +kernel
theorem dX12_readSum_166 : decode cX12_readSum 166 = .ok (.aload_n 0, 1) := by decide +kernel
theorem dX12_readSum_167 : decode cX12_readSum 167 = .ok (.iconst 4, 1) := by decide +kernel
theorem dX12_readSum_168 : decode cX12_readSum 168 = .ok (.iconst (-1), 1) := by decide +kernel
theorem dX12_readSum_169 : decode cX12_readSum 169 = .ok (.iconst 0, 1) := by decide +kernel
theorem dX12_readSum_170 : decode cX12_readSum 170 = .ok (.invokevirtual 159, 3) := by decide +kernel
theorem dX12_readSum_173 : decode cX12_readSum 173 = .ok (.return_, 1) := by decide +kernel
theorem dX12_readApp_0 : decode cX12_readApp 0 = .ok (.aload_n 0, 1) := by decide +kernel
theorem dX12_readApp_1 : decode cX12_readApp 1 = .ok (.getfield 147, 3) := by decide +kernel
theorem dX12_readApp_4 : decode cX12_readApp 4 = .ok (.iload_n 1, 1) := by decide +kernel
theorem dX12_readApp_5 : decode cX12_readApp 5 = .ok (.iaload, 1) := by decide +kernel
theorem dX12_readApp_6 : decode cX12_readApp 6 = .ok (.iconst 1, 1) := by decide +kernel
theorem dX12_readApp_7 : decode cX12_readApp 7 = .ok (.if_icmp .ne 14, 3) := by decide +kernel
theorem dX12_readApp_10 : decode cX12_readApp 10 = .ok (.aload_n 0, 1) := by decide +kernel
theorem dX12_readApp_11 : decode cX12_readApp 11 = .ok (.aload_n 0, 1) := by decide +kernel
theorem dX12_readApp_12 : decode cX12_readApp 12 = .ok (.getfield 144, 3) := by decide +kernel
theorem dX12_readApp_15 : decode cX12_readApp 15 = .ok (.iload_n 1, 1) := by decide +kernel
theorem dX12_readApp_16 : decode cX12_readApp 16 = .ok (.iaload, 1) := by decide +kernel
theorem dX12_readApp_17 : decode cX12_readApp 17 = .ok (.invokevirtual 200, 3) := by decide +kernel
theorem dX12_readApp_20 : decode cX12_readApp 20 = .ok (.return_, 1) := by decide +kernel
theorem dX12_readApp_21 : decode cX12_readApp 21 = .ok (.aload_n 0, 1) := by decide +kernel
theorem dX12_readApp_22 : decode cX12_readApp 22 = .ok (.getfield 68, 3) := by decide +kernel
theorem dX12_readApp_25 : decode cX12_readApp 25 = .ok (.iconst 2, 1) := by decide +kernel
theorem dX12_readApp_26 : decode cX12_readApp 26 = .ok (.if_icmp .ne 18, 3) := by decide +kernel
theorem dX12_readApp_29 : decode cX12_readApp 29 = .ok (.aload_n 0, 1) := by decide +kernel
theorem dX12_readApp_30 : decode cX12_readApp 30 = .ok (.invokevirtual 218, 3) := by decide +kernel
theorem dX12_readApp_33 : decode cX12_readApp 33 = .ok (.iconst (-1), 1) := by decide +kernel
theorem dX12_readApp_34 : decode cX12_readApp 34 = .ok (.if_icmp .ne 10, 3) := by decide +kernel
theorem dX12_readApp_37 : decode cX12_readApp 37 = .ok (.aload_n 0, 1) := by decide +kernel
theorem dX12_readApp_38 : decode cX12_readApp 38 = .ok (.invokevirtual 222, 3) := by decide +kernel
theorem dX12_readApp_41 : decode cX12_readApp 41 = .ok (.goto 4, 3) := by decide +kernel
theorem dX12_readApp_44 : decode cX12_readApp 44 = .ok (.iconst (-1), 1) := by decide +kernel
theorem dX12_readApp_45 : decode cX12_readApp 45 = .ok (.istore_n 2, 1) := by decide +kernel
theorem dX12_readApp_46 : decode cX12_readApp 46 = .ok (.aload_n 0, 1) := by decide +kernel
theorem dX12_readApp_47 : decode cX12_readApp 47 = .ok (.getfield 68, 3) := by decide +kernel
theorem dX12_readApp_50 : decode cX12_readApp 50 = .ok (.iconst 2, 1) := by decide +kernel
theorem dX12_readApp_51 : decode cX12_readApp 51 = .ok (.if_icmp .ne 18, 3) := by decide +kernel
theorem dX12_readApp_54 : decode cX12_readApp 54 = .ok (.aload_n 0, 1) := by decide +kernel
theorem dX12_readApp_55 : decode cX12_readApp 55 = .ok (.invokevirtual 218, 3) := by decide +kernel
theorem dX12_readApp_58 : decode cX12_readApp 58 = .ok (.iconst (-1), 1) := by decide +kernel
theorem dX12_readApp_59 : decode cX12_readApp 59 = .ok (.if_icmp .ne 10, 3) := by decide +kernel
theorem dX12_readApp_62 : decode cX12_readApp 62 = .ok (.aload_n 0, 1) := by decide +kernel
theorem dX12_readApp_63 : decode cX12_readApp 63 = .ok (.invokevirtual 225, 3) := by decide +kernel
theorem dX12_readApp_66 : decode cX12_readApp 66 = .ok (.goto 4, 3) := by decide +kernel
theorem dX12_readApp_69 : decode cX12_readApp 69 = .ok (.iconst (-1), 1) := by decide +kernel
theorem dX12_readApp_70 : decode cX12_readApp 70 = .ok (.istore_n 3, 1) := by decide +kernel
theorem dX12_readApp_71 : decode cX12_readApp 71 = .ok (.iload_n 3, 1) := by decide +kernel
theorem dX12_readApp_72 : decode cX12_readApp 72 = .ok (.ifCond .lt 59, 3) := by decide +kernel
theorem dX12_readApp_75 : decode cX12_readApp 75 = .ok (.aload_n 0, 1) := by decide +kernel
theorem dX12_readApp_76 : decode cX12_readApp 76 = .ok (.bipush 8, 2) := by decide +kernel
theorem dX12_readApp_78 : decode cX12_readApp 78 = .ok (.aload_n 0, 1) := by decide +kernel
theorem dX12_readApp_79 : decode cX12_readApp 79 = .ok (.getfield 58, 3) := by decide +kernel
theorem dX12_readApp_82 : decode cX12_readApp 82 = .ok (.invokevirtual 203, 3) := by decide +kernel
theorem dX12_readApp_85 : decode cX12_readApp 85 = .ok (.istore 4, 2) := by decide +kernel
theorem dX12_readApp_87 : decode cX12_readApp 87 = .ok (.aload_n 0, 1) := by decide +kernel
theorem dX12_readApp_88 : decode cX12_readApp 88 = .ok (.getfield 14, 3) := by decide +kernel
theorem dX12_readApp_91 : decode cX12_readApp 91 = .ok (.iload 4, 2) := by decide +kernel
theorem dX12_readApp_93 : decode cX12_readApp 93 = .ok (.iload_n 3, 1) := by decide +kernel
theorem dX12_readApp_94 : decode cX12_readApp 94 = .ok (.iastore, 1) := by decide +kernel
theorem dX12_readApp_95 : decode cX12_readApp 95 = .ok (.aload_n 0, 1) := by decide +kernel
theorem dX12_readApp_96 : decode cX12_readApp 96 = .ok (.invokevirtual 211, 3) := by decide +kernel
theorem dX12_readApp_99 : decode cX12_readApp 99 = .ok (.aload_n 0, 1) := by decide +kernel
theorem dX12_readApp_100 : decode cX12_readApp 100 = .ok (.getfield 147, 3) := by decide +kernel
theorem dX12_readApp_103 : decode cX12_readApp 103 = .ok (.iload_n 1, 1) := by decide +kernel
theorem dX12_readApp_104 : decode cX12_readApp 104 = .ok (.iconst 1, 1) := by decide +kernel
theorem dX12_readApp_105 : decode cX12_readApp 105 = .ok (.iastore, 1) := by decide +kernel
theorem dX12_readApp_106 : decode cX12_readApp 106 = .ok (.aload_n 0, 1) := by decide +kernel
theorem dX12_readApp_107 : decode cX12_readApp 107 = .ok (.getfield 144, 3) := by decide +kernel
theorem dX12_readApp_110 : decode cX12_readApp 110 = .ok (.iload_n 1, 1) := by decide +kernel
theorem dX12_readApp_111 : decode cX12_readApp 111 = .ok (.iload 4, 2) := by decide +kernel
theorem dX12_readApp_113 : decode cX12_readApp 113 = .ok (.iastore, 1) := by decide +kernel
theorem dX12_readApp_114 : decode cX12_readApp 114 = .ok (.aload_n 0, 1) := by decide +kernel
theorem dX12_readApp_115 : decode cX12_readApp 115 = .ok (.bipush 6, 2) := by decide +kernel
theorem dX12_readApp_117 : decode cX12_readApp 117 = .ok (.iload 4, 2) := by decide +kernel
theorem dX12_readApp_119 : decode cX12_readApp 119 = .ok (.aload_n 0, 1) := by decide +kernel
theorem dX12_readApp_120 : decode cX12_readApp 120 = .ok (.getfield 228, 3) := by decide +kernel
theorem dX12_readApp_123 : decode cX12_readApp 123 = .ok (.iload_n 3, 1) := by decide +kernel
theorem dX12_readApp_124 : decode cX12_readApp 124 = .ok (.iaload, 1) := by decide +kernel
theorem dX12_readApp_125 : decode cX12_readApp 125 = .ok (.invokevirtual 159, 3) := by decide +kernel
theorem dX12_readApp_128 : decode cX12_readApp 128 = .ok (.goto 92, 3) := by decide +kernel
theorem dX12_readApp_131 : decode cX12_readApp 131 = .ok (.iload_n 2, 1) := by decide +kernel
theorem dX12_readApp_132 : decode cX12_readApp 132 = .ok (.ifCond .lt 71, 3) := by decide +kernel
theorem dX12_readApp_135 : decode cX12_readApp 135 = .ok (.aload_n 0, 1) := by decide +kernel
theorem dX12_readApp_136 : decode cX12_readApp 136 = .ok (.getfield 231, 3) := by decide +kernel
theorem dX12_readApp_139 : decode cX12_readApp 139 = .ok (.iload_n 2, 1) := by decide +kernel
theorem dX12_readApp_140 : decode cX12_readApp 140 = .ok (.iaload, 1) := by decide +kernel
theorem dX12_readApp_141 : decode cX12_readApp 141 = .ok (.ifCond .le 62, 3) := by decide +kernel
theorem dX12_readApp_144 : decode cX12_readApp 144 = .ok (.aload_n 0, 1) := by decide +kernel
theorem dX12_readApp_145 : decode cX12_readApp 145 = .ok (.bipush 7, 2) := by decide +kernel
theorem dX12_readApp_147 : decode cX12_readApp 147 = .ok (.aload_n 0, 1) := by decide +kernel
theorem dX12_readApp_148 : decode cX12_readApp 148 = .ok (.getfield 58, 3) := by decide +kernel
theorem dX12_readApp_151 : decode cX12_readApp 151 = .ok (.invokevirtual 203, 3) := by decide +kernel
theorem dX12_readApp_154 : decode cX12_readApp 154 = .ok (.istore 4, 2) := by decide +kernel
theorem dX12_readApp_156 : decode cX12_readApp 156 = .ok (.aload_n 0, 1) := by decide +kernel
theorem dX12_readApp_157 : decode cX12_readApp 157 = .ok (.getfield 14, 3) := by decide +kernel
theorem dX12_readApp_160 : decode cX12_readApp 160 = .ok (.iload 4, 2) := by decide +kernel
theorem dX12_readApp_162 : decode cX12_readApp 162 = .ok (.iload_n 2, 1) := by decide +kernel
theorem dX12_readApp_163 : decode cX12_readApp 163 = .ok (.iastore, 1) := by decide +kernel
theorem dX12_readApp_164 : decode cX12_readApp 164 = .ok (.aload_n 0, 1) := by decide +kernel
theorem dX12_readApp_165 : decode cX12_readApp 165 = .ok (.invokevirtual 211, 3) := by decide +kernel
theorem dX12_readApp_168 : decode cX12_readApp 168 = .ok (.aload_n 0, 1) := by decide +kernel
theorem dX12_readApp_169 : decode cX12_readApp 169 = .ok (.getfield 147, 3) := by decide +kernel
theorem dX12_readApp_172 : decode cX12_readApp 172 = .ok (.iload_n 1, 1) := by decide +kernel
theorem dX12_readApp_173 : decode cX12_readApp 173 = .ok (.iconst 1, 1) := by decide +kernel
theorem dX12_readApp_174 : decode cX12_readApp 174 = .ok (.iastore, 1) := by decide +kernel
theorem dX12_readApp_175 : decode cX12_readApp 175 = .ok (.aload_n 0, 1) := by decide +kernel
theorem dX12_readApp_176 : decode cX12_readApp 176 = .ok (.getfield 144, 3) := by decide +kernel
theorem dX12_readApp_179 : decode cX12_readApp 179 = .ok (.iload_n 1, 1) := by decide +kernel
theorem dX12_readApp_180 : decode cX12_readApp 180 = .ok (.iload 4, 2) := by decide +kernel
theorem dX12_readApp_182 : decode cX12_readApp 182 = .ok (.iastore, 1) := by decide +kernel
theorem dX12_readApp_183 : decode cX12_readApp 183 = .ok (.aload_n 0, 1) := by decide +kernel
theorem dX12_readApp_184 : decode cX12_readApp 184 = .ok (.bipush 6, 2) := by decide +kernel
theorem dX12_readApp_186 : decode cX12_readApp 186 = .ok (.iload 4, 2) := by decide +kernel
theorem dX12_readApp_188 : decode cX12_readApp 188 = .ok (.aload_n 0, 1) := by decide +kernel
theorem dX12_readApp_189 : decode cX12_readApp 189 = .ok (.getfield 231, 3) := by decide +kernel
theorem dX12_readApp_192 : decode cX12_readApp 192 = .ok (.iload_n 2, 1) := by decide +kernel
theorem dX12_readApp_193 : decode cX12_readApp 193 = .ok (.iaload, 1) := by decide +kernel
theorem dX12_readApp_194 : decode cX12_readApp 194 = .ok (.invokestatic 234, 3) := by decide +kernel
theorem dX12_readApp_197 : decode cX12_readApp 197 = .ok (.invokevirtual 159, 3) := by decide +kernel
theorem dX12_readApp_200 : decode cX12_readApp 200 = .ok (.goto 20, 3) := by decide +kernel
theorem dX12_readApp_203 : decode cX12_readApp 203 = .ok (.aload_n 0, 1) := by decide +kernel
theorem dX12_readApp_204 : decode cX12_readApp 204 = .ok (.dup, 1) := by decide +kernel
theorem dX12_readApp_205 : decode cX12_readApp 205 = .ok (.getfield 141, 3) := by decide +kernel
theorem dX12_readApp_208 : decode cX12_readApp 208 = .ok (.iconst 1, 1) := by decide +kernel
theorem dX12_readApp_209 : decode cX12_readApp 209 = .ok (.isub, 1) := by decide +kernel
theorem dX12_readApp_210 : decode cX12_readApp 210 = .ok (.putfield 141, 3) := by decide +kernel
theorem dX12_readApp_213 : decode cX12_readApp 213 = .ok (.aload_n 0, 1) := by decide +kernel
theorem dX12_readApp_214 : decode cX12_readApp 214 = .ok (.iconst 5, 1) := by decide +kernel
theorem dX12_readApp_215 : decode cX12_readApp 215 = .ok (.iconst (-1), 1) := by decide +kernel
theorem dX12_readApp_216 : decode cX12_readApp 216 = .ok (.iconst 0, 1) := by decide +kernel
theorem dX12_readApp_217 : decode cX12_readApp 217 = .ok (.invokevirtual 159, 3) := by decide +kernel
theorem dX12_readApp_220 : decode cX12_readApp 220 = .ok (.return_, 1) := by decide +kernel
theorem dX12_all_0 : decode cX12_all 0 = .ok (.iload_n 0, 1) := by decide +kernel
theorem dX12_all_1 : decode cX12_all 1 = .ok (.ifCond .ne 7, 3) := by decide +kernel
theorem dX12_all_4 : decode cX12_all 4 = .ok (.iconst 0, 1) := by decide +kernel
theorem dX12_all_5 : decode cX12_all 5 = .ok (.goto 36, 3) := by decide +kernel
theorem dX12_all_8 : decode cX12_all 8 = .ok (.iload_n 0, 1) := by decide +kernel
theorem dX12_all_9 : decode cX12_all 9 = .ok (.iconst 1, 1) := by decide +kernel
theorem dX12_all_10 : decode cX12_all 10 = .ok (.if_icmp .ne 7, 3) := by decide +kernel
theorem dX12_all_13 : decode cX12_all 13 = .ok (.iconst 4, 1) := by decide +kernel
theorem dX12_all_14 : decode cX12_all 14 = .ok (.goto 27, 3) := by decide +kernel
theorem dX12_all_17 : decode cX12_all 17 = .ok (.iload_n 0, 1) := by decide +kernel
theorem dX12_all_18 : decode cX12_all 18 = .ok (.iconst 2, 1) := by decide +kernel
theorem dX12_all_19 : decode cX12_all 19 = .ok (.if_icmp .ne 8, 3) := by decide +kernel
theorem dX12_all_22 : decode cX12_all 22 = .ok (.bipush 44, 2) := by decide +kernel
theorem dX12_all_24 : decode cX12_all 24 = .ok (.goto 17, 3) := by decide +kernel
theorem dX12_all_27 : decode cX12_all 27 = .ok (.iload_n 0, 1) := by decide +kernel
theorem dX12_all_28 : decode cX12_all 28 = .ok (.iconst 3, 1) := by decide +kernel
theorem dX12_all_29 : decode cX12_all 29 = .ok (.if_icmp .ne 9, 3) := by decide +kernel
theorem dX12_all_32 : decode cX12_all 32 = .ok (.sipush 444, 3) := by decide +kernel
theorem dX12_all_35 : decode cX12_all 35 = .ok (.goto 6, 3) := by decide +kernel
theorem dX12_all_38 : decode cX12_all 38 = .ok (.sipush 4444, 3) := by decide +kernel
theorem dX12_all_41 : decode cX12_all 41 = .ok (.ireturn, 1) := by decide +kernel
theorem dX12_isOpen_0 : decode cX12_isOpen 0 = .ok (.aload_n 0, 1) := by decide +kernel
theorem dX12_isOpen_1 : decode cX12_isOpen 1 = .ok (.getfield 156, 3) := by decide +kernel
theorem dX12_isOpen_4 : decode cX12_isOpen 4 = .ok (.bipush 20, 2) := by decide +kernel
theorem dX12_isOpen_6 : decode cX12_isOpen 6 = .ok (.if_icmp .ne 11, 3) := by decide +kernel
theorem dX12_isOpen_9 : decode cX12_isOpen 9 = .ok (.aload_n 0, 1) := by decide +kernel
theorem dX12_isOpen_10 : decode cX12_isOpen 10 = .ok (.iconst 4, 1) := by decide +kernel
theorem dX12_isOpen_11 : decode cX12_isOpen 11 = .ok (.iload_n 1, 1) := by decide +kernel
theorem dX12_isOpen_12 : decode cX12_isOpen 12 = .ok (.invokevirtual 237, 3) := by decide +kernel
theorem dX12_isOpen_15 : decode cX12_isOpen 15 = .ok (.iconst 0, 1) := by decide +kernel
theorem dX12_isOpen_16 : decode cX12_isOpen 16 = .ok (.ireturn, 1) := by decide +kernel
theorem dX12_isOpen_17 : decode cX12_isOpen 17 = .ok (.aload_n 0, 1) := by decide +kernel
theorem dX12_isOpen_18 : decode cX12_isOpen 18 = .ok (.dup, 1) := by decide +kernel
theorem dX12_isOpen_19 : decode cX12_isOpen 19 = .ok (.getfield 156, 3) := by decide +kernel
theorem dX12_isOpen_22 : decode cX12_isOpen 22 = .ok (.iconst 1, 1) := by decide +kernel
theorem dX12_isOpen_23 : decode cX12_isOpen 23 = .ok (.iadd, 1) := by decide +kernel
theorem dX12_isOpen_24 : decode cX12_isOpen 24 = .ok (.putfield 156, 3) := by decide +kernel
theorem dX12_isOpen_27 : decode cX12_isOpen 27 = .ok (.iconst 1, 1) := by decide +kernel
theorem dX12_isOpen_28 : decode cX12_isOpen 28 = .ok (.ireturn, 1) := by decide +kernel
theorem dX12_readArg_0 : decode cX12_readArg 0 = .ok (.aload_n 0, 1) := by decide +kernel
theorem dX12_readArg_1 : decode cX12_readArg 1 = .ok (.getfield 147, 3) := by decide +kernel
theorem dX12_readArg_4 : decode cX12_readArg 4 = .ok (.iload_n 1, 1) := by decide +kernel
theorem dX12_readArg_5 : decode cX12_readArg 5 = .ok (.iaload, 1) := by decide +kernel
theorem dX12_readArg_6 : decode cX12_readArg 6 = .ok (.iconst 1, 1) := by decide +kernel
theorem dX12_readArg_7 : decode cX12_readArg 7 = .ok (.if_icmp .ne 47, 3) := by decide +kernel
theorem dX12_readArg_10 : decode cX12_readArg 10 = .ok (.aload_n 0, 1) := by decide +kernel
theorem dX12_readArg_11 : decode cX12_readArg 11 = .ok (.bipush 41, 2) := by decide +kernel
theorem dX12_readArg_13 : decode cX12_readArg 13 = .ok (.invokevirtual 197, 3) := by decide +kernel
theorem dX12_readArg_16 : decode cX12_readArg 16 = .ok (.ifCond .ne 13, 3) := by decide +kernel
theorem dX12_readArg_19 : decode cX12_readArg 19 = .ok (.aload_n 0, 1) := by decide +kernel
theorem dX12_readArg_20 : decode cX12_readArg 20 = .ok (.iconst 1, 1) := by decide +kernel
theorem dX12_readArg_21 : decode cX12_readArg 21 = .ok (.aload_n 0, 1) := by decide +kernel
theorem dX12_readArg_22 : decode cX12_readArg 22 = .ok (.getfield 58, 3) := by decide +kernel
theorem dX12_readArg_25 : decode cX12_readArg 25 = .ok (.invokevirtual 237, 3) := by decide +kernel
theorem dX12_readArg_28 : decode cX12_readArg 28 = .ok (.return_, 1) := by decide +kernel
theorem dX12_readArg_29 : decode cX12_readArg 29 = .ok (.aload_n 0, 1) := by decide +kernel
theorem dX12_readArg_30 : decode cX12_readArg 30 = .ok (.dup, 1) := by decide +kernel
theorem dX12_readArg_31 : decode cX12_readArg 31 = .ok (.getfield 156, 3) := by decide +kernel
theorem dX12_readArg_34 : decode cX12_readArg 34 = .ok (.iconst 1, 1) := by decide +kernel
theorem dX12_readArg_35 : decode cX12_readArg 35 = .ok (.isub, 1) := by decide +kernel
theorem dX12_readArg_36 : decode cX12_readArg 36 = .ok (.putfield 156, 3) := by decide +kernel
theorem dX12_readArg_39 : decode cX12_readArg 39 = .ok (.aload_n 0, 1) := by decide +kernel
theorem dX12_readArg_40 : decode cX12_readArg 40 = .ok (.invokevirtual 211, 3) := by decide +kernel
theorem dX12_readArg_43 : decode cX12_readArg 43 = .ok (.aload_n 0, 1) := by decide +kernel
theorem dX12_readArg_44 : decode cX12_readArg 44 = .ok (.aload_n 0, 1) := by decide +kernel
theorem dX12_readArg_45 : decode cX12_readArg 45 = .ok (.getfield 153, 3) := by decide +kernel
theorem dX12_readArg_48 : decode cX12_readArg 48 = .ok (.invokevirtual 200, 3) := by decide +kernel
theorem dX12_readArg_51 : decode cX12_readArg 51 = .ok (.goto 304, 3) := by decide +kernel
theorem dX12_readArg_54 : decode cX12_readArg 54 = .ok (.aload_n 0, 1) := by decide +kernel
theorem dX12_readArg_55 : decode cX12_readArg 55 = .ok (.getfield 147, 3) := by decide +kernel
theorem dX12_readArg_58 : decode cX12_readArg 58 = .ok (.iload_n 1, 1) := by decide +kernel
theorem dX12_readArg_59 : decode cX12_readArg 59 = .ok (.iaload, 1) := by decide +kernel
theorem dX12_readArg_60 : decode cX12_readArg 60 = .ok (.iconst 2, 1) := by decide +kernel
theorem dX12_readArg_61 : decode cX12_readArg 61 = .ok (.if_icmp .ne 70, 3) := by decide +kernel
theorem dX12_readArg_64 : decode cX12_readArg 64 = .ok (.aload_n 0, 1) := by decide +kernel
theorem dX12_readArg_65 : decode cX12_readArg 65 = .ok (.aload_n 0, 1) := by decide +kernel
theorem dX12_readArg_66 : decode cX12_readArg 66 = .ok (.getfield 240, 3) := by decide +kernel
theorem dX12_readArg_69 : decode cX12_readArg 69 = .ok (.invokevirtual 64, 3) := by decide +kernel
theorem dX12_readArg_72 : decode cX12_readArg 72 = .ok (.bipush 34, 2) := by decide +kernel
theorem dX12_readArg_74 : decode cX12_readArg 74 = .ok (.if_icmp .ne 16, 3) := by decide +kernel
theorem dX12_readArg_77 : decode cX12_readArg 77 = .ok (.aload_n 0, 1) := by decide +kernel
theorem dX12_readArg_78 : decode cX12_readArg 78 = .ok (.getfield 240, 3) := by decide +kernel
theorem dX12_readArg_81 : decode cX12_readArg 81 = .ok (.aload_n 0, 1) := by decide +kernel
theorem dX12_readArg_82 : decode cX12_readArg 82 = .ok (.getfield 150, 3) := by decide +kernel
theorem dX12_readArg_85 : decode cX12_readArg 85 = .ok (.iload_n 1, 1) := by decide +kernel
theorem dX12_readArg_86 : decode cX12_readArg 86 = .ok (.iaload, 1) := by decide +kernel
theorem dX12_readArg_87 : decode cX12_readArg 87 = .ok (.if_icmp .eq 13, 3) := by decide +kernel
theorem dX12_readArg_90 : decode cX12_readArg 90 = .ok (.aload_n 0, 1) := by decide +kernel
theorem dX12_readArg_91 : decode cX12_readArg 91 = .ok (.iconst 1, 1) := by decide +kernel
theorem dX12_readArg_92 : decode cX12_readArg 92 = .ok (.aload_n 0, 1) := by decide +kernel
theorem dX12_readArg_93 : decode cX12_readArg 93 = .ok (.getfield 240, 3) := by decide +kernel
theorem dX12_readArg_96 : decode cX12_readArg 96 = .ok (.invokevirtual 237, 3) := by decide +kernel
theorem dX12_readArg_99 : decode cX12_readArg 99 = .ok (.return_, 1) := by decide +kernel
theorem dX12_readArg_100 : decode cX12_readArg 100 = .ok (.aload_n 0, 1) := by decide +kernel
theorem dX12_readArg_101 : decode cX12_readArg 101 = .ok (.dup, 1) := by decide +kernel
theorem dX12_readArg_102 : decode cX12_readArg 102 = .ok (.getfield 156, 3) := by decide +kernel
theorem dX12_readArg_105 : decode cX12_readArg 105 = .ok (.iconst 1, 1) := by decide +kernel
theorem dX12_readArg_106 : decode cX12_readArg 106 = .ok (.isub, 1) := by decide +kernel
theorem dX12_readArg_107 : decode cX12_readArg 107 = .ok (.putfield 156, 3) := by decide +kernel
theorem dX12_readArg_110 : decode cX12_readArg 110 = .ok (.aload_n 0, 1) := by decide +kernel
theorem dX12_readArg_111 : decode cX12_readArg 111 = .ok (.aload_n 0, 1) := by decide +kernel
theorem dX12_readArg_112 : decode cX12_readArg 112 = .ok (.getfield 240, 3) := by decide +kernel
theorem dX12_readArg_115 : decode cX12_readArg 115 = .ok (.iconst 1, 1) := by decide +kernel
theorem dX12_readArg_116 : decode cX12_readArg 116 = .ok (.iadd, 1) := by decide +kernel
theorem dX12_readArg_117 : decode cX12_readArg 117 = .ok (.invokevirtual 108, 3) := by decide +kernel
theorem dX12_readArg_120 : decode cX12_readArg 120 = .ok (.aload_n 0, 1) := by decide +kernel
theorem dX12_readArg_121 : decode cX12_readArg 121 = .ok (.aload_n 0, 1) := by decide +kernel
theorem dX12_readArg_122 : decode cX12_readArg 122 = .ok (.getfield 153, 3) := by decide +kernel
theorem dX12_readArg_125 : decode cX12_readArg 125 = .ok (.invokevirtual 200, 3) := by decide +kernel
theorem dX12_readArg_128 : decode cX12_readArg 128 = .ok (.goto 227, 3) := by decide +kernel
theorem dX12_readArg_131 : decode cX12_readArg 131 = .ok (.aload_n 0, 1) := by decide +kernel
theorem dX12_readArg_132 : decode cX12_readArg 132 = .ok (.getfield 68, 3) := by decide +kernel
theorem dX12_readArg_135 : decode cX12_readArg 135 = .ok (.iconst 5, 1) := by decide +kernel
theorem dX12_readArg_136 : decode cX12_readArg 136 = .ok (.if_icmp .ne 60, 3) := by decide +kernel
theorem dX12_readArg_139 : decode cX12_readArg 139 = .ok (.aload_n 0, 1) := by decide +kernel
theorem dX12_readArg_140 : decode cX12_readArg 140 = .ok (.aload_n 0, 1) := by decide +kernel
theorem dX12_readArg_141 : decode cX12_readArg 141 = .ok (.getfield 58, 3) := by decide +kernel
theorem dX12_readArg_144 : decode cX12_readArg 144 = .ok (.invokevirtual 243, 3) := by decide +kernel
theorem dX12_readArg_147 : decode cX12_readArg 147 = .ok (.ifCond .ne 4, 3) := by decide +kernel
theorem dX12_readArg_150 : decode cX12_readArg 150 = .ok (.return_, 1) := by decide +kernel
theorem dX12_readArg_151 : decode cX12_readArg 151 = .ok (.aload_n 0, 1) := by decide +kernel
theorem dX12_readArg_152 : decode cX12_readArg 152 = .ok (.getfield 147, 3) := by decide +kernel
theorem dX12_readArg_155 : decode cX12_readArg 155 = .ok (.iload_n 1, 1) := by decide +kernel
theorem dX12_readArg_156 : decode cX12_readArg 156 = .ok (.iconst 2, 1) := by decide +kernel
theorem dX12_readArg_157 : decode cX12_readArg 157 = .ok (.iastore, 1) := by decide +kernel
theorem dX12_readArg_158 : decode cX12_readArg 158 = .ok (.aload_n 0, 1) := by decide +kernel
theorem dX12_readArg_159 : decode cX12_readArg 159 = .ok (.getfield 150, 3) := by decide +kernel
theorem dX12_readArg_162 : decode cX12_readArg 162 = .ok (.iload_n 1, 1) := by decide +kernel
theorem dX12_readArg_163 : decode cX12_readArg 163 = .ok (.aload_n 0, 1) := by decide +kernel
theorem dX12_readArg_164 : decode cX12_readArg 164 = .ok (.getfield 61, 3) := by decide +kernel
theorem dX12_readArg_167 : decode cX12_readArg 167 = .ok (.iconst 1, 1) := by decide +kernel
theorem dX12_readArg_168 : decode cX12_readArg 168 = .ok (.isub, 1) := by decide +kernel
theorem dX12_readArg_169 : decode cX12_readArg 169 = .ok (.iastore, 1) := by decide +kernel
theorem dX12_readArg_170 : decode cX12_readArg 170 = .ok (.aload_n 0, 1) := by decide +kernel
theorem dX12_readArg_171 : decode cX12_readArg 171 = .ok (.aload_n 0, 1) := by decide +kernel
theorem dX12_readArg_172 : decode cX12_readArg 172 = .ok (.getfield 58, 3) := by decide +kernel
theorem dX12_readArg_175 : decode cX12_readArg 175 = .ok (.iconst 1, 1) := by decide +kernel
theorem dX12_readArg_176 : decode cX12_readArg 176 = .ok (.iadd, 1) := by decide +kernel
theorem dX12_readArg_177 : decode cX12_readArg 177 = .ok (.putfield 240, 3) := by decide +kernel
theorem dX12_readArg_180 : decode cX12_readArg 180 = .ok (.aload_n 0, 1) := by decide +kernel
theorem dX12_readArg_181 : decode cX12_readArg 181 = .ok (.iconst 0, 1) := by decide +kernel
theorem dX12_readArg_182 : decode cX12_readArg 182 = .ok (.putfield 246, 3) := by decide +kernel
theorem dX12_readArg_185 : decode cX12_readArg 185 = .ok (.aload_n 0, 1) := by decide +kernel
theorem dX12_readArg_186 : decode cX12_readArg 186 = .ok (.bipush 10, 2) := by decide +kernel
theorem dX12_readArg_188 : decode cX12_readArg 188 = .ok (.iconst (-1), 1) := by decide +kernel
theorem dX12_readArg_189 : decode cX12_readArg 189 = .ok (.iconst 0, 1) := by decide +kernel
theorem dX12_readArg_190 : decode cX12_readArg 190 = .ok (.invokevirtual 159, 3) := by decide +kernel
theorem dX12_readArg_193 : decode cX12_readArg 193 = .ok (.goto 162, 3) := by decide +kernel
theorem dX12_readArg_196 : decode cX12_readArg 196 = .ok (.aload_n 0, 1) := by decide +kernel
theorem dX12_readArg_197 : decode cX12_readArg 197 = .ok (.bipush 40, 2) := by decide +kernel
theorem dX12_readArg_199 : decode cX12_readArg 199 = .ok (.invokevirtual 197, 3) := by decide +kernel
theorem dX12_readArg_202 : decode cX12_readArg 202 = .ok (.ifCond .eq 36, 3) := by decide +kernel
theorem dX12_readArg_205 : decode cX12_readArg 205 = .ok (.aload_n 0, 1) := by decide +kernel
theorem dX12_readArg_206 : decode cX12_readArg 206 = .ok (.aload_n 0, 1) := by decide +kernel
theorem dX12_readArg_207 : decode cX12_readArg 207 = .ok (.getfield 58, 3) := by decide +kernel
theorem dX12_readArg_210 : decode cX12_readArg 210 = .ok (.invokevirtual 243, 3) := by decide +kernel
theorem dX12_readArg_213 : decode cX12_readArg 213 = .ok (.ifCond .ne 4, 3) := by decide +kernel
theorem dX12_readArg_216 : decode cX12_readArg 216 = .ok (.return_, 1) := by decide +kernel
theorem dX12_readArg_217 : decode cX12_readArg 217 = .ok (.aload_n 0, 1) := by decide +kernel
theorem dX12_readArg_218 : decode cX12_readArg 218 = .ok (.getfield 147, 3) := by decide +kernel
theorem dX12_readArg_221 : decode cX12_readArg 221 = .ok (.iload_n 1, 1) := by decide +kernel
theorem dX12_readArg_222 : decode cX12_readArg 222 = .ok (.iconst 1, 1) := by decide +kernel
theorem dX12_readArg_223 : decode cX12_readArg 223 = .ok (.iastore, 1) := by decide +kernel
theorem dX12_readArg_224 : decode cX12_readArg 224 = .ok (.aload_n 0, 1) := by decide +kernel
theorem dX12_readArg_225 : decode cX12_readArg 225 = .ok (.invokevirtual 211, 3) := by decide +kernel
theorem dX12_readArg_228 : decode cX12_readArg 228 = .ok (.aload_n 0, 1) := by decide +kernel
theorem dX12_readArg_229 : decode cX12_readArg 229 = .ok (.iconst 1, 1) := by decide +kernel
theorem dX12_readArg_230 : decode cX12_readArg 230 = .ok (.iconst (-1), 1) := by decide +kernel
theorem dX12_readArg_231 : decode cX12_readArg 231 = .ok (.iconst 0, 1) := by decide +kernel
theorem dX12_readArg_232 : decode cX12_readArg 232 = .ok (.invokevirtual 159, 3) := by decide +kernel
theorem dX12_readArg_235 : decode cX12_readArg 235 = .ok (.goto 120, 3) := by decide +kernel
theorem dX12_readArg_238 : decode cX12_readArg 238 = .ok (.aload_n 0, 1) := by decide +kernel
theorem dX12_readArg_239 : decode cX12_readArg 239 = .ok (.getfield 68, 3) := by decide +kernel
theorem dX12_readArg_242 : decode cX12_readArg 242 = .ok (.iconst 2, 1) := by decide +kernel
theorem dX12_readArg_243 : decode cX12_readArg 243 = .ok (.if_icmp .ne 103, 3) := by decide +kernel
theorem dX12_readArg_246 : decode cX12_readArg 246 = .ok (.aload_n 0, 1) := by decide +kernel
theorem dX12_readArg_247 : decode cX12_readArg 247 = .ok (.invokevirtual 218, 3) := by decide +kernel
theorem dX12_readArg_250 : decode cX12_readArg 250 = .ok (.istore_n 2, 1) := by decide +kernel
theorem dX12_readArg_251 : decode cX12_readArg 251 = .ok (.aload_n 0, 1) := by decide +kernel
theorem dX12_readArg_252 : decode cX12_readArg 252 = .ok (.invokevirtual 222, 3) := by decide +kernel
theorem dX12_readArg_255 : decode cX12_readArg 255 = .ok (.istore_n 3, 1) := by decide +kernel
theorem dX12_readArg_256 : decode cX12_readArg 256 = .ok (.iload_n 2, 1) := by decide +kernel
theorem dX12_readArg_257 : decode cX12_readArg 257 = .ok (.iconst (-1), 1) := by decide +kernel
theorem dX12_readArg_258 : decode cX12_readArg 258 = .ok (.if_icmp .ne 34, 3) := by decide +kernel
theorem dX12_readArg_261 : decode cX12_readArg 261 = .ok (.aload_n 0, 1) := by decide +kernel
theorem dX12_readArg_262 : decode cX12_readArg 262 = .ok (.invokevirtual 225, 3) := by decide +kernel
theorem dX12_readArg_265 : decode cX12_readArg 265 = .ok (.ifCond .ge 17, 3) := by decide +kernel
theorem dX12_readArg_268 : decode cX12_readArg 268 = .ok (.iload_n 3, 1) := by decide +kernel
theorem dX12_readArg_269 : decode cX12_readArg 269 = .ok (.iconst (-1), 1) := by decide +kernel
theorem dX12_readArg_270 : decode cX12_readArg 270 = .ok (.if_icmp .eq 12, 3) := by decide +kernel
theorem dX12_readArg_273 : decode cX12_readArg 273 = .ok (.aload_n 0, 1) := by decide +kernel
theorem dX12_readArg_274 : decode cX12_readArg 274 = .ok (.getfield 231, 3) := by decide +kernel
theorem dX12_readArg_277 : decode cX12_readArg 277 = .ok (.iload_n 3, 1) := by decide +kernel
theorem dX12_readArg_278 : decode cX12_readArg 278 = .ok (.iaload, 1) := by decide +kernel
theorem dX12_readArg_279 : decode cX12_readArg 279 = .ok (.ifCond .le 13, 3) := by decide +kernel
theorem dX12_readArg_282 : decode cX12_readArg 282 = .ok (.aload_n 0, 1) := by decide +kernel
theorem dX12_readArg_283 : decode cX12_readArg 283 = .ok (.iconst 2, 1) := by decide +kernel
theorem dX12_readArg_284 : decode cX12_readArg 284 = .ok (.aload_n 0, 1) := by decide +kernel
theorem dX12_readArg_285 : decode cX12_readArg 285 = .ok (.getfield 58, 3) := by decide +kernel
theorem dX12_readArg_288 : decode cX12_readArg 288 = .ok (.invokevirtual 237, 3) := by decide +kernel
theorem dX12_readArg_291 : decode cX12_readArg 291 = .ok (.return_, 1) := by decide +kernel
theorem dX12_readArg_292 : decode cX12_readArg 292 = .ok (.aload_n 0, 1) := by decide +kernel
theorem dX12_readArg_293 : decode cX12_readArg 293 = .ok (.iload_n 2, 1) := by decide +kernel
theorem dX12_readArg_294 : decode cX12_readArg 294 = .ok (.ifCond .lt 7, 3) := by decide +kernel
theorem dX12_readArg_297 : decode cX12_readArg 297 = .ok (.iconst 5, 1) := by decide +kernel
theorem dX12_readArg_298 : decode cX12_readArg 298 = .ok (.goto 5, 3) := by decide +kernel
theorem dX12_readArg_301 : decode cX12_readArg 301 = .ok (.bipush 6, 2) := by decide +kernel
theorem dX12_readArg_303 : decode cX12_readArg 303 = .ok (.aload_n 0, 1) := by decide +kernel
theorem dX12_readArg_304 : decode cX12_readArg 304 = .ok (.getfield 58, 3) := by decide +kernel
theorem dX12_readArg_307 : decode cX12_readArg 307 = .ok (.invokevirtual 203, 3) := by decide +kernel
theorem dX12_readArg_310 : decode cX12_readArg 310 = .ok (.istore 4, 2) := by decide +kernel
theorem dX12_readArg_312 : decode cX12_readArg 312 = .ok (.aload_n 0, 1) := by decide +kernel
theorem dX12_readArg_313 : decode cX12_readArg 313 = .ok (.getfield 14, 3) := by decide +kernel
theorem dX12_readArg_316 : decode cX12_readArg 316 = .ok (.iload 4, 2) := by decide +kernel
theorem dX12_readArg_318 : decode cX12_readArg 318 = .ok (.iload_n 2, 1) := by decide +kernel
theorem dX12_readArg_319 : decode cX12_readArg 319 = .ok (.ifCond .lt 7, 3) := by decide +kernel
theorem dX12_readArg_322 : decode cX12_readArg 322 = .ok (.iload_n 2, 1) := by decide +kernel
theorem dX12_readArg_323 : decode cX12_readArg 323 = .ok (.goto 9, 3) := by decide +kernel
theorem dX12_readArg_326 : decode cX12_readArg 326 = .ok (.aload_n 0, 1) := by decide +kernel
theorem dX12_readArg_327 : decode cX12_readArg 327 = .ok (.getfield 249, 3) := by decide +kernel
theorem dX12_readArg_330 : decode cX12_readArg 330 = .ok (.iload_n 3, 1) := by decide +kernel
theorem dX12_readArg_331 : decode cX12_readArg 331 = .ok (.iaload, 1) := by decide +kernel
theorem dX12_readArg_332 : decode cX12_readArg 332 = .ok (.iastore, 1) := by decide +kernel
theorem dX12_readArg_333 : decode cX12_readArg 333 = .ok (.aload_n 0, 1) := by decide +kernel
theorem dX12_readArg_334 : decode cX12_readArg 334 = .ok (.invokevirtual 211, 3) := by decide +kernel
theorem dX12_readArg_337 : decode cX12_readArg 337 = .ok (.aload_n 0, 1) := by decide +kernel
theorem dX12_readArg_338 : decode cX12_readArg 338 = .ok (.iload 4, 2) := by decide +kernel
theorem dX12_readArg_340 : decode cX12_readArg 340 = .ok (.invokevirtual 200, 3) := by decide +kernel
theorem dX12_readArg_343 : decode cX12_readArg 343 = .ok (.goto 12, 3) := by decide +kernel
theorem dX12_readArg_346 : decode cX12_readArg 346 = .ok (.aload_n 0, 1) := by decide +kernel
theorem dX12_readArg_347 : decode cX12_readArg 347 = .ok (.iconst 1, 1) := by decide +kernel
theorem dX12_readArg_348 : decode cX12_readArg 348 = .ok (.aload_n 0, 1) := by decide +kernel
theorem dX12_readArg_349 : decode cX12_readArg 349 = .ok (.getfield 58, 3) := by decide +kernel
theorem dX12_readArg_352 : decode cX12_readArg 352 = .ok (.invokevirtual 237, 3) := by decide +kernel
theorem dX12_readArg_355 : decode cX12_readArg 355 = .ok (.return_, 1) := by decide +kernel
theorem dX12_readWants_0 : decode cX12_readWants 0 = .ok (.aload_n 0, 1) := by decide +kernel
theorem dX12_readWants_1 : decode cX12_readWants 1 = .ok (.getfield 144, 3) := by decide +kernel
theorem dX12_readWants_4 : decode cX12_readWants 4 = .ok (.iload_n 1, 1) := by decide +kernel
theorem dX12_readWants_5 : decode cX12_readWants 5 = .ok (.iaload, 1) := by decide +kernel
theorem dX12_readWants_6 : decode cX12_readWants 6 = .ok (.istore_n 2, 1) := by decide +kernel
theorem dX12_readWants_7 : decode cX12_readWants 7 = .ok (.aload_n 0, 1) := by decide +kernel
theorem dX12_readWants_8 : decode cX12_readWants 8 = .ok (.getfield 147, 3) := by decide +kernel
theorem dX12_readWants_11 : decode cX12_readWants 11 = .ok (.iload_n 1, 1) := by decide +kernel
theorem dX12_readWants_12 : decode cX12_readWants 12 = .ok (.iaload, 1) := by decide +kernel
theorem dX12_readWants_13 : decode cX12_readWants 13 = .ok (.iconst 1, 1) := by decide +kernel
theorem dX12_readWants_14 : decode cX12_readWants 14 = .ok (.if_icmp .ne 19, 3) := by decide +kernel
theorem dX12_readWants_17 : decode cX12_readWants 17 = .ok (.aload_n 0, 1) := by decide +kernel
theorem dX12_readWants_18 : decode cX12_readWants 18 = .ok (.iload_n 2, 1) := by decide +kernel
theorem dX12_readWants_19 : decode cX12_readWants 19 = .ok (.aload_n 0, 1) := by decide +kernel
theorem dX12_readWants_20 : decode cX12_readWants 20 = .ok (.getfield 153, 3) := by decide +kernel
theorem dX12_readWants_23 : decode cX12_readWants 23 = .ok (.invokevirtual 207, 3) := by decide +kernel
theorem dX12_readWants_26 : decode cX12_readWants 26 = .ok (.aload_n 0, 1) := by decide +kernel
theorem dX12_readWants_27 : decode cX12_readWants 27 = .ok (.getfield 147, 3) := by decide +kernel
theorem dX12_readWants_30 : decode cX12_readWants 30 = .ok (.iload_n 1, 1) := by decide +kernel
theorem dX12_readWants_31 : decode cX12_readWants 31 = .ok (.iconst 0, 1) := by decide +kernel
theorem dX12_readWants_32 : decode cX12_readWants 32 = .ok (.iastore, 1) := by decide +kernel
theorem dX12_readWants_33 : decode cX12_readWants 33 = .ok (.aload_n 0, 1) := by decide +kernel
theorem dX12_readWants_34 : decode cX12_readWants 34 = .ok (.getfield 150, 3) := by decide +kernel
theorem dX12_readWants_37 : decode cX12_readWants 37 = .ok (.iload_n 1, 1) := by decide +kernel
theorem dX12_readWants_38 : decode cX12_readWants 38 = .ok (.iaload, 1) := by decide +kernel
theorem dX12_readWants_39 : decode cX12_readWants 39 = .ok (.istore_n 3, 1) := by decide +kernel
theorem dX12_readWants_40 : decode cX12_readWants 40 = .ok (.iload_n 3, 1) := by decide +kernel
theorem dX12_readWants_41 : decode cX12_readWants 41 = .ok (.ifCond .ne 9, 3) := by decide +kernel
theorem dX12_readWants_44 : decode cX12_readWants 44 = .ok (.aload_n 0, 1) := by decide +kernel
theorem dX12_readWants_45 : decode cX12_readWants 45 = .ok (.iload_n 2, 1) := by decide +kernel
theorem dX12_readWants_46 : decode cX12_readWants 46 = .ok (.invokevirtual 200, 3) := by decide +kernel
theorem dX12_readWants_49 : decode cX12_readWants 49 = .ok (.return_, 1) := by decide +kernel
theorem dX12_readWants_50 : decode cX12_readWants 50 = .ok (.iload_n 3, 1) := by decide +kernel
theorem dX12_readWants_51 : decode cX12_readWants 51 = .ok (.sipush 999, 3) := by decide +kernel
theorem dX12_readWants_54 : decode cX12_readWants 54 = .ok (.if_icmp .le 9, 3) := by decide +kernel
theorem dX12_readWants_57 : decode cX12_readWants 57 = .ok (.sipush 1000, 3) := by decide +kernel
theorem dX12_readWants_60 : decode cX12_readWants 60 = .ok (.goto 26, 3) := by decide +kernel
theorem dX12_readWants_63 : decode cX12_readWants 63 = .ok (.iload_n 3, 1) := by decide +kernel
theorem dX12_readWants_64 : decode cX12_readWants 64 = .ok (.bipush 99, 2) := by decide +kernel
theorem dX12_readWants_66 : decode cX12_readWants 66 = .ok (.if_icmp .le 8, 3) := by decide +kernel
theorem dX12_readWants_69 : decode cX12_readWants 69 = .ok (.bipush 100, 2) := by decide +kernel
theorem dX12_readWants_71 : decode cX12_readWants 71 = .ok (.goto 15, 3) := by decide +kernel
theorem dX12_readWants_74 : decode cX12_readWants 74 = .ok (.iload_n 3, 1) := by decide +kernel
theorem dX12_readWants_75 : decode cX12_readWants 75 = .ok (.bipush 9, 2) := by decide +kernel
theorem dX12_readWants_77 : decode cX12_readWants 77 = .ok (.if_icmp .le 8, 3) := by decide +kernel
theorem dX12_readWants_80 : decode cX12_readWants 80 = .ok (.bipush 10, 2) := by decide +kernel
theorem dX12_readWants_82 : decode cX12_readWants 82 = .ok (.goto 4, 3) := by decide +kernel
theorem dX12_readWants_85 : decode cX12_readWants 85 = .ok (.iconst 1, 1) := by decide +kernel
theorem dX12_readWants_86 : decode cX12_readWants 86 = .ok (.istore 4, 2) := by decide +kernel
theorem dX12_readWants_88 : decode cX12_readWants 88 = .ok (.iload_n 3, 1) := by decide +kernel
theorem dX12_readWants_89 : decode cX12_readWants 89 = .ok (.iload 4, 2) := by decide +kernel
theorem dX12_readWants_91 : decode cX12_readWants 91 = .ok (.idiv, 1) := by decide +kernel
theorem dX12_readWants_92 : decode cX12_readWants 92 = .ok (.istore 5, 2) := by decide +kernel
theorem dX12_readWants_94 : decode cX12_readWants 94 = .ok (.aload_n 0, 1) := by decide +kernel
theorem dX12_readWants_95 : decode cX12_readWants 95 = .ok (.getfield 150, 3) := by decide +kernel
theorem dX12_readWants_98 : decode cX12_readWants 98 = .ok (.iload_n 1, 1) := by decide +kernel
theorem dX12_readWants_99 : decode cX12_readWants 99 = .ok (.iload_n 3, 1) := by decide +kernel
theorem dX12_readWants_100 : decode cX12_readWants 100 = .ok (.iload 4, 2) := by decide +kernel
theorem dX12_readWants_102 : decode cX12_readWants 102 = .ok (.irem, 1) := by decide +kernel
theorem dX12_readWants_103 : decode cX12_readWants 103 = .ok (.iastore, 1) := by decide +kernel
theorem dX12_readWants_104 : decode cX12_readWants 104 = .ok (.iload 5, 2) := by decide +kernel
theorem dX12_readWants_106 : decode cX12_readWants 106 = .ok (.iconst 1, 1) := by decide +kernel
theorem dX12_readWants_107 : decode cX12_readWants 107 = .ok (.if_icmp .ne 11, 3) := by decide +kernel
theorem dX12_readWants_110 : decode cX12_readWants 110 = .ok (.aload_n 0, 1) := by decide +kernel
theorem dX12_readWants_111 : decode cX12_readWants 111 = .ok (.iload_n 2, 1) := by decide +kernel
theorem dX12_readWants_112 : decode cX12_readWants 112 = .ok (.invokevirtual 252, 3) := by decide +kernel
theorem dX12_readWants_115 : decode cX12_readWants 115 = .ok (.goto 42, 3) := by decide +kernel
theorem dX12_readWants_118 : decode cX12_readWants 118 = .ok (.iload 5, 2) := by decide +kernel
theorem dX12_readWants_120 : decode cX12_readWants 120 = .ok (.iconst 2, 1) := by decide +kernel
theorem dX12_readWants_121 : decode cX12_readWants 121 = .ok (.if_icmp .ne 11, 3) := by decide +kernel
theorem dX12_readWants_124 : decode cX12_readWants 124 = .ok (.aload_n 0, 1) := by decide +kernel
theorem dX12_readWants_125 : decode cX12_readWants 125 = .ok (.iload_n 2, 1) := by decide +kernel
theorem dX12_readWants_126 : decode cX12_readWants 126 = .ok (.invokevirtual 255, 3) := by decide +kernel
theorem dX12_readWants_129 : decode cX12_readWants 129 = .ok (.goto 28, 3) := by decide +kernel
theorem dX12_readWants_132 : decode cX12_readWants 132 = .ok (.aload_n 0, 1) := by decide +kernel
theorem dX12_readWants_133 : decode cX12_readWants 133 = .ok (.getfield 147, 3) := by decide +kernel
theorem dX12_readWants_136 : decode cX12_readWants 136 = .ok (.iload_n 1, 1) := by decide +kernel
theorem dX12_readWants_137 : decode cX12_readWants 137 = .ok (.iconst 1, 1) := by decide +kernel
theorem dX12_readWants_138 : decode cX12_readWants 138 = .ok (.iastore, 1) := by decide +kernel
theorem dX12_readWants_139 : decode cX12_readWants 139 = .ok (.aload_n 0, 1) := by decide +kernel
theorem dX12_readWants_140 : decode cX12_readWants 140 = .ok (.iload 5, 2) := by decide +kernel
theorem dX12_readWants_142 : decode cX12_readWants 142 = .ok (.iconst 3, 1) := by decide +kernel
theorem dX12_readWants_143 : decode cX12_readWants 143 = .ok (.if_icmp .ne 8, 3) := by decide +kernel
theorem dX12_readWants_146 : decode cX12_readWants 146 = .ok (.bipush 7, 2) := by decide +kernel
theorem dX12_readWants_148 : decode cX12_readWants 148 = .ok (.goto 4, 3) := by decide +kernel
theorem dX12_readWants_151 : decode cX12_readWants 151 = .ok (.iconst 5, 1) := by decide +kernel
theorem dX12_readWants_152 : decode cX12_readWants 152 = .ok (.iconst (-1), 1) := by decide +kernel
theorem dX12_readWants_153 : decode cX12_readWants 153 = .ok (.iconst 0, 1) := by decide +kernel
theorem dX12_readWants_154 : decode cX12_readWants 154 = .ok (.invokevirtual 159, 3) := by decide +kernel
theorem dX12_readWants_157 : decode cX12_readWants 157 = .ok (.return_, 1) := by decide +kernel
theorem dX12_common_0 : decode cX12_common 0 = .ok (.iload_n 0, 1) := by decide +kernel
theorem dX12_common_1 : decode cX12_common 1 = .ok (.istore_n 2, 1) := by decide +kernel
theorem dX12_common_2 : decode cX12_common 2 = .ok (.iload_n 1, 1) := by decide +kernel
theorem dX12_common_3 : decode cX12_common 3 = .ok (.istore_n 3, 1) := by decide +kernel
theorem dX12_common_4 : decode cX12_common 4 = .ok (.iload_n 3, 1) := by decide +kernel
theorem dX12_common_5 : decode cX12_common 5 = .ok (.ifCond .eq 16, 3) := by decide +kernel
theorem dX12_common_8 : decode cX12_common 8 = .ok (.iload_n 2, 1) := by decide +kernel
theorem dX12_common_9 : decode cX12_common 9 = .ok (.iload_n 3, 1) := by decide +kernel
theorem dX12_common_10 : decode cX12_common 10 = .ok (.irem, 1) := by decide +kernel
theorem dX12_common_11 : decode cX12_common 11 = .ok (.istore 4, 2) := by decide +kernel
theorem dX12_common_13 : decode cX12_common 13 = .ok (.iload_n 3, 1) := by decide +kernel
theorem dX12_common_14 : decode cX12_common 14 = .ok (.istore_n 2, 1) := by decide +kernel
theorem dX12_common_15 : decode cX12_common 15 = .ok (.iload 4, 2) := by decide +kernel
theorem dX12_common_17 : decode cX12_common 17 = .ok (.istore_n 3, 1) := by decide +kernel
theorem dX12_common_18 : decode cX12_common 18 = .ok (.goto (-14), 3) := by decide +kernel
theorem dX12_common_21 : decode cX12_common 21 = .ok (.iload_n 2, 1) := by decide +kernel
theorem dX12_common_22 : decode cX12_common 22 = .ok (.ireturn, 1) := by decide +kernel
theorem dX12_readFraction_0 : decode cX12_readFraction 0 = .ok (.aload_n 0, 1) := by decide +kernel
theorem dX12_readFraction_1 : decode cX12_readFraction 1 = .ok (.getfield 68, 3) := by decide +kernel
theorem dX12_readFraction_4 : decode cX12_readFraction 4 = .ok (.iconst 3, 1) := by decide +kernel
theorem dX12_readFraction_5 : decode cX12_readFraction 5 = .ok (.if_icmp .eq 21, 3) := by decide +kernel
theorem dX12_readFraction_8 : decode cX12_readFraction 8 = .ok (.aload_n 0, 1) := by decide +kernel
theorem dX12_readFraction_9 : decode cX12_readFraction 9 = .ok (.getfield 68, 3) := by decide +kernel
theorem dX12_readFraction_12 : decode cX12_readFraction 12 = .ok (.iconst 4, 1) := by decide +kernel
theorem dX12_readFraction_13 : decode cX12_readFraction 13 = .ok (.if_icmp .eq 13, 3) := by decide +kernel
theorem dX12_readFraction_16 : decode cX12_readFraction 16 = .ok (.aload_n 0, 1) := by decide +kernel
theorem dX12_readFraction_17 : decode cX12_readFraction 17 = .ok (.iconst 1, 1) := by decide +kernel
theorem dX12_readFraction_18 : decode cX12_readFraction 18 = .ok (.aload_n 0, 1) := by decide +kernel
theorem dX12_readFraction_19 : decode cX12_readFraction 19 = .ok (.getfield 58, 3) := by decide +kernel
theorem dX12_readFraction_22 : decode cX12_readFraction 22 = .ok (.invokevirtual 237, 3) := by decide +kernel
theorem dX12_readFraction_25 : decode cX12_readFraction 25 = .ok (.return_, 1) := by decide +kernel
theorem dX12_readFraction_26 : decode cX12_readFraction 26 = .ok (.aload_n 0, 1) := by decide +kernel
theorem dX12_readFraction_27 : decode cX12_readFraction 27 = .ok (.getfield 102, 3) := by decide +kernel
theorem dX12_readFraction_30 : decode cX12_readFraction 30 = .ok (.istore_n 2, 1) := by decide +kernel
theorem dX12_readFraction_31 : decode cX12_readFraction 31 = .ok (.aload_n 0, 1) := by decide +kernel
theorem dX12_readFraction_32 : decode cX12_readFraction 32 = .ok (.getfield 68, 3) := by decide +kernel
theorem dX12_readFraction_35 : decode cX12_readFraction 35 = .ok (.iconst 3, 1) := by decide +kernel
theorem dX12_readFraction_36 : decode cX12_readFraction 36 = .ok (.if_icmp .ne 7, 3) := by decide +kernel
theorem dX12_readFraction_39 : decode cX12_readFraction 39 = .ok (.iconst 1, 1) := by decide +kernel
theorem dX12_readFraction_40 : decode cX12_readFraction 40 = .ok (.goto 7, 3) := by decide +kernel
theorem dX12_readFraction_43 : decode cX12_readFraction 43 = .ok (.aload_n 0, 1) := by decide +kernel
theorem dX12_readFraction_44 : decode cX12_readFraction 44 = .ok (.getfield 105, 3) := by decide +kernel
theorem dX12_readFraction_47 : decode cX12_readFraction 47 = .ok (.istore_n 3, 1) := by decide +kernel
theorem dX12_readFraction_48 : decode cX12_readFraction 48 = .ok (.aload_n 0, 1) := by decide +kernel
theorem dX12_readFraction_49 : decode cX12_readFraction 49 = .ok (.getfield 14, 3) := by decide +kernel
theorem dX12_readFraction_52 : decode cX12_readFraction 52 = .ok (.iload_n 1, 1) := by decide +kernel
theorem dX12_readFraction_53 : decode cX12_readFraction 53 = .ok (.iaload, 1) := by decide +kernel
theorem dX12_readFraction_54 : decode cX12_readFraction 54 = .ok (.istore 4, 2) := by decide +kernel
theorem dX12_readFraction_56 : decode cX12_readFraction 56 = .ok (.iload 4, 2) := by decide +kernel
theorem dX12_readFraction_58 : decode cX12_readFraction 58 = .ok (.bipush 19, 2) := by decide +kernel
theorem dX12_readFraction_60 : decode cX12_readFraction 60 = .ok (.if_icmp .eq 10, 3) := by decide +kernel
theorem dX12_readFraction_63 : decode cX12_readFraction 63 = .ok (.iload 4, 2) := by decide +kernel
theorem dX12_readFraction_65 : decode cX12_readFraction 65 = .ok (.bipush 20, 2) := by decide +kernel
theorem dX12_readFraction_67 : decode cX12_readFraction 67 = .ok (.if_icmp .ne 7, 3) := by decide +kernel
theorem dX12_readFraction_70 : decode cX12_readFraction 70 = .ok (.iconst 1, 1) := by decide +kernel
theorem dX12_readFraction_71 : decode cX12_readFraction 71 = .ok (.goto 4, 3) := by decide +kernel
theorem dX12_readFraction_74 : decode cX12_readFraction 74 = .ok (.iconst 0, 1) := by decide +kernel
theorem dX12_readFraction_75 : decode cX12_readFraction 75 = .ok (.istore 5, 2) := by decide +kernel
theorem dX12_readFraction_77 : decode cX12_readFraction 77 = .ok (.iload 5, 2) := by decide +kernel
theorem dX12_readFraction_79 : decode cX12_readFraction 79 = .ok (.ifCond .eq 16, 3) := by decide +kernel
theorem dX12_readFraction_82 : decode cX12_readFraction 82 = .ok (.aload_n 0, 1) := by decide +kernel
theorem dX12_readFraction_83 : decode cX12_readFraction 83 = .ok (.getfield 20, 3) := by decide +kernel
theorem dX12_readFraction_86 : decode cX12_readFraction 86 = .ok (.iload_n 1, 1) := by decide +kernel
theorem dX12_readFraction_87 : decode cX12_readFraction 87 = .ok (.iaload, 1) := by decide +kernel
theorem dX12_readFraction_88 : decode cX12_readFraction 88 = .ok (.ifCond .eq 7, 3) := by decide +kernel
theorem dX12_readFraction_91 : decode cX12_readFraction 91 = .ok (.iconst 1, 1) := by decide +kernel
theorem dX12_readFraction_92 : decode cX12_readFraction 92 = .ok (.goto 4, 3) := by decide +kernel
theorem dX12_readFraction_95 : decode cX12_readFraction 95 = .ok (.iconst 0, 1) := by decide +kernel
theorem dX12_readFraction_96 : decode cX12_readFraction 96 = .ok (.istore 6, 2) := by decide +kernel
theorem dX12_readFraction_98 : decode cX12_readFraction 98 = .ok (.iload_n 2, 1) := by decide +kernel
theorem dX12_readFraction_99 : decode cX12_readFraction 99 = .ok (.bipush 64, 2) := by decide +kernel
theorem dX12_readFraction_101 : decode cX12_readFraction 101 = .ok (.if_icmp .gt 66, 3) := by decide +kernel
theorem dX12_readFraction_104 : decode cX12_readFraction 104 = .ok (.iload_n 3, 1) := by decide +kernel
theorem dX12_readFraction_105 : decode cX12_readFraction 105 = .ok (.bipush 64, 2) := by decide +kernel
theorem dX12_readFraction_107 : decode cX12_readFraction 107 = .ok (.if_icmp .gt 60, 3) := by decide +kernel
theorem dX12_readFraction_110 : decode cX12_readFraction 110 = .ok (.iload_n 3, 1) := by decide +kernel
theorem dX12_readFraction_111 : decode cX12_readFraction 111 = .ok (.ifCond .eq 56, 3) := by decide +kernel
theorem dX12_readFraction_114 : decode cX12_readFraction 114 = .ok (.iload 4, 2) := by decide +kernel
theorem dX12_readFraction_116 : decode cX12_readFraction 116 = .ok (.ifCond .eq 9, 3) := by decide +kernel
theorem dX12_readFraction_119 : decode cX12_readFraction 119 = .ok (.iload 4, 2) := by decide +kernel
theorem dX12_readFraction_121 : decode cX12_readFraction 121 = .ok (.iconst 1, 1) := by decide +kernel
theorem dX12_readFraction_122 : decode cX12_readFraction 122 = .ok (.if_icmp .ne 7, 3) := by decide +kernel
theorem dX12_readFraction_125 : decode cX12_readFraction 125 = .ok (.iload_n 2, 1) := by decide +kernel
theorem dX12_readFraction_126 : decode cX12_readFraction 126 = .ok (.ifCond .le 41, 3) := by decide +kernel
theorem dX12_readFraction_129 : decode cX12_readFraction 129 = .ok (.iload 5, 2) := by decide +kernel
theorem dX12_readFraction_131 : decode cX12_readFraction 131 = .ok (.ifCond .eq 8, 3) := by decide +kernel
theorem dX12_readFraction_134 : decode cX12_readFraction 134 = .ok (.iload_n 2, 1) := by decide +kernel
theorem dX12_readFraction_135 : decode cX12_readFraction 135 = .ok (.iload_n 3, 1) := by decide +kernel
theorem dX12_readFraction_136 : decode cX12_readFraction 136 = .ok (.if_icmp .gt 31, 3) := by decide +kernel
theorem dX12_readFraction_139 : decode cX12_readFraction 139 = .ok (.iload 6, 2) := by decide +kernel
theorem dX12_readFraction_141 : decode cX12_readFraction 141 = .ok (.ifCond .eq 22, 3) := by decide +kernel
theorem dX12_readFraction_144 : decode cX12_readFraction 144 = .ok (.iload_n 2, 1) := by decide +kernel
theorem dX12_readFraction_145 : decode cX12_readFraction 145 = .ok (.aload_n 0, 1) := by decide +kernel
theorem dX12_readFraction_146 : decode cX12_readFraction 146 = .ok (.getfield 20, 3) := by decide +kernel
theorem dX12_readFraction_149 : decode cX12_readFraction 149 = .ok (.iload_n 1, 1) := by decide +kernel
theorem dX12_readFraction_150 : decode cX12_readFraction 150 = .ok (.iaload, 1) := by decide +kernel
theorem dX12_readFraction_151 : decode cX12_readFraction 151 = .ok (.imul, 1) := by decide +kernel
theorem dX12_readFraction_152 : decode cX12_readFraction 152 = .ok (.aload_n 0, 1) := by decide +kernel
theorem dX12_readFraction_153 : decode cX12_readFraction 153 = .ok (.getfield 17, 3) := by decide +kernel
