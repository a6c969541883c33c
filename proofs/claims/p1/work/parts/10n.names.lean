abbrev cX2_letterAt : ByteArray := prog_4_method_7_code
def yX2_letterAt : MethodName := ⟨RX2, "letterAt", "(II)I"⟩
abbrev cX3_restart : ByteArray := prog_5_method_2_code
def yX3_restart : MethodName := ⟨RX3, "restart", "()V"⟩
abbrev cX6_hasMore : ByteArray := prog_8_method_2_code
def yX6_hasMore : MethodName := ⟨RX6, "hasMore", "()Z"⟩
abbrev cX6_wholeExp : ByteArray := prog_8_method_4_code
def yX6_wholeExp : MethodName := ⟨RX6, "wholeExp", "()LCycleStudio$Definition;"⟩
abbrev cX6_exp : ByteArray := prog_8_method_9_code
def yX6_exp : MethodName := ⟨RX6, "exp", "()I"⟩
abbrev cX6_cat : ByteArray := prog_8_method_10_code
def yX6_cat : MethodName := ⟨RX6, "cat", "()I"⟩
abbrev cX6_sum : ByteArray := prog_8_method_11_code
def yX6_sum : MethodName := ⟨RX6, "sum", "()I"⟩
abbrev cX6_app : ByteArray := prog_8_method_12_code
def yX6_app : MethodName := ⟨RX6, "app", "()I"⟩
abbrev cX6_arg : ByteArray := prog_8_method_13_code
def yX6_arg : MethodName := ⟨RX6, "arg", "()I"⟩
abbrev cX8_append : ByteArray := prog_10_method_2_code
def yX8_append : MethodName := ⟨RX8, "append", "(I)V"⟩
abbrev cX8_restart : ByteArray := prog_10_method_3_code
def yX8_restart : MethodName := ⟨RX8, "restart", "()V"⟩
abbrev cX8_fail : ByteArray := prog_10_method_4_code
def yX8_fail : MethodName := ⟨RX8, "fail", "(II)V"⟩
abbrev cX8_byteAt : ByteArray := prog_10_method_6_code
def yX8_byteAt : MethodName := ⟨RX8, "byteAt", "(I)I"⟩
abbrev cX8_advance : ByteArray := prog_10_method_7_code
def yX8_advance : MethodName := ⟨RX8, "advance", "()V"⟩
abbrev cX11_feed : ByteArray := prog_1_method_2_code
def yX11_feed : MethodName := ⟨RX11, "feed", "(IIIII)Z"⟩
abbrev cX11_end : ByteArray := prog_1_method_3_code
def yX11_end : MethodName := ⟨RX11, "end", "(I)Z"⟩
abbrev cX11_read : ByteArray := prog_1_method_4_code
def yX11_read : MethodName := ⟨RX11, "read", "()I"⟩
abbrev cX11_hang : ByteArray := prog_1_method_5_code
def yX11_hang : MethodName := ⟨RX11, "hang", "(I)I"⟩
abbrev cX11_hush : ByteArray := prog_1_method_6_code
def yX11_hush : MethodName := ⟨RX11, "hush", "(I)Z"⟩
abbrev cX11_told : ByteArray := prog_1_method_7_code
def yX11_told : MethodName := ⟨RX11, "told", "(I)I"⟩
abbrev cX11_bound : ByteArray := prog_1_method_8_code
def yX11_bound : MethodName := ⟨RX11, "bound", "(II)I"⟩
abbrev cX11_ask : ByteArray := prog_1_method_9_code
def yX11_ask : MethodName := ⟨RX11, "ask", "(II)I"⟩
abbrev cX11_event : ByteArray := prog_1_method_10_code
def yX11_event : MethodName := ⟨RX11, "event", "(II)I"⟩
abbrev cX11_letter : ByteArray := prog_1_method_11_code
def yX11_letter : MethodName := ⟨RX11, "letter", "(II)I"⟩
abbrev cX11_play : ByteArray := prog_1_method_12_code
def yX11_play : MethodName := ⟨RX11, "play", "(I)I"⟩
abbrev cX11_heard : ByteArray := prog_1_method_13_code
def yX11_heard : MethodName := ⟨RX11, "heard", "(II)I"⟩
abbrev cX11_heardLetter : ByteArray := prog_1_method_14_code
def yX11_heardLetter : MethodName := ⟨RX11, "heardLetter", "(II)I"⟩
abbrev cX11_jump : ByteArray := prog_1_method_15_code
def yX11_jump : MethodName := ⟨RX11, "jump", "(I)Z"⟩
abbrev cX11_mute : ByteArray := prog_1_method_16_code
def yX11_mute : MethodName := ⟨RX11, "mute", "(IZ)Z"⟩
abbrev cX11_solo : ByteArray := prog_1_method_17_code
def yX11_solo : MethodName := ⟨RX11, "solo", "(IZ)Z"⟩
abbrev cX11_seed : ByteArray := prog_1_method_18_code
def yX11_seed : MethodName := ⟨RX11, "seed", "(I)V"⟩
abbrev cX11_about : ByteArray := prog_1_method_19_code
def yX11_about : MethodName := ⟨RX11, "about", "(I)I"⟩
abbrev cX11_isTrack : ByteArray := prog_1_method_20_code
def yX11_isTrack : MethodName := ⟨RX11, "isTrack", "(I)Z"⟩
abbrev cX11_startReading : ByteArray := prog_1_method_21_code
def yX11_startReading : MethodName := ⟨RX11, "startReading", "()V"⟩
abbrev cX11_finishReading : ByteArray := prog_1_method_22_code
def yX11_finishReading : MethodName := ⟨RX11, "finishReading", "(I)I"⟩
abbrev cX11_copyDefinitions : ByteArray := prog_1_method_24_code
def yX11_copyDefinitions : MethodName := ⟨RX11, "copyDefinitions", "(Ljava/util/ArrayList;Ljava/util/ArrayList;)V"⟩
abbrev cX11_assign : ByteArray := prog_1_method_25_code
def yX11_assign : MethodName := ⟨RX11, "assign", "(ILCycleStudio$Pattern;)V"⟩
abbrev cX11_settle : ByteArray := prog_1_method_26_code
def yX11_settle : MethodName := ⟨RX11, "settle", "()V"⟩
abbrev cX11_hearCycle : ByteArray := prog_1_method_27_code
def yX11_hearCycle : MethodName := ⟨RX11, "hearCycle", "(III)I"⟩
abbrev cX11_anyAlone : ByteArray := prog_1_method_28_code
def yX11_anyAlone : MethodName := ⟨RX11, "anyAlone", "()Z"⟩
abbrev cX11_tracksWithPattern : ByteArray := prog_1_method_29_code
def yX11_tracksWithPattern : MethodName := ⟨RX11, "tracksWithPattern", "()I"⟩
abbrev cX11_tracksWaiting : ByteArray := prog_1_method_30_code
def yX11_tracksWaiting : MethodName := ⟨RX11, "tracksWaiting", "()I"⟩
abbrev cJx4a65c_size_8abf5 : ByteArray := prog_25_method_8_code
def yJx4a65c_size_8abf5 : MethodName := ⟨RJx4a65c, "size", "()I"⟩
abbrev cJx4a65c_clear_da8c8 : ByteArray := prog_25_method_40_code
def yJx4a65c_clear_da8c8 : MethodName := ⟨RJx4a65c, "clear", "()V"⟩
def wsX11_isTrack : List Cond := .code yX11_isTrack cX11_isTrack 1 (some .boolean) :: ([])
theorem dX2_letterAt_0 : decode cX2_letterAt 0 = .ok (.iload_n 1, 1) := by decide +kernel
theorem dX2_letterAt_1 : decode cX2_letterAt 1 = .ok (.ifCond .lt 28, 3) := by decide +kernel
theorem dX2_letterAt_4 : decode cX2_letterAt 4 = .ok (.iload_n 1, 1) := by decide +kernel
theorem dX2_letterAt_5 : decode cX2_letterAt 5 = .ok (.aload_n 0, 1) := by decide +kernel
theorem dX2_letterAt_6 : decode cX2_letterAt 6 = .ok (.getfield 38, 3) := by decide +kernel
theorem dX2_letterAt_9 : decode cX2_letterAt 9 = .ok (.if_icmp .ge 20, 3) := by decide +kernel
theorem dX2_letterAt_29 : decode cX2_letterAt 29 = .ok (.iconst (-1), 1) := by decide +kernel
theorem dX2_letterAt_30 : decode cX2_letterAt 30 = .ok (.ireturn, 1) := by decide +kernel
theorem dX3_restart_0 : decode cX3_restart 0 = .ok (.aload_n 0, 1) := by decide +kernel
theorem dX3_restart_1 : decode cX3_restart 1 = .ok (.iconst 0, 1) := by decide +kernel
theorem dX3_restart_2 : decode cX3_restart 2 = .ok (.putfield 38, 3) := by decide +kernel
theorem dX3_restart_5 : decode cX3_restart 5 = .ok (.aload_n 0, 1) := by decide +kernel
theorem dX3_restart_6 : decode cX3_restart 6 = .ok (.iconst 0, 1) := by decide +kernel
theorem dX3_restart_7 : decode cX3_restart 7 = .ok (.putfield 41, 3) := by decide +kernel
theorem dX3_restart_10 : decode cX3_restart 10 = .ok (.aload_n 0, 1) := by decide +kernel
theorem dX3_restart_11 : decode cX3_restart 11 = .ok (.iconst 0, 1) := by decide +kernel
theorem dX3_restart_12 : decode cX3_restart 12 = .ok (.putfield 44, 3) := by decide +kernel
theorem dX3_restart_15 : decode cX3_restart 15 = .ok (.return_, 1) := by decide +kernel
theorem dX6_hasMore_0 : decode cX6_hasMore 0 = .ok (.aload_n 0, 1) := by decide +kernel
theorem dX6_hasMore_1 : decode cX6_hasMore 1 = .ok (.getfield 31, 3) := by decide +kernel
theorem dX6_hasMore_4 : decode cX6_hasMore 4 = .ok (.getfield 66, 3) := by decide +kernel
theorem dX6_hasMore_7 : decode cX6_hasMore 7 = .ok (.bipush 6, 2) := by decide +kernel
theorem dX6_hasMore_9 : decode cX6_hasMore 9 = .ok (.if_icmp .eq 7, 3) := by decide +kernel
theorem dX6_hasMore_16 : decode cX6_hasMore 16 = .ok (.iconst 0, 1) := by decide +kernel
theorem dX6_hasMore_17 : decode cX6_hasMore 17 = .ok (.ireturn, 1) := by decide +kernel
theorem dX6_wholeExp_0 : decode cX6_wholeExp 0 = .ok (.aload_n 0, 1) := by decide +kernel
theorem dX6_wholeExp_1 : decode cX6_wholeExp 1 = .ok (.new 15, 3) := by decide +kernel
theorem dX6_wholeExp_4 : decode cX6_wholeExp 4 = .ok (.dup, 1) := by decide +kernel
theorem dX6_wholeExp_5 : decode cX6_wholeExp 5 = .ok (.lconst 0, 1) := by decide +kernel
theorem dX6_wholeExp_6 : decode cX6_wholeExp 6 = .ok (.invokespecial 17, 3) := by decide +kernel
theorem dX6_wholeExp_9 : decode cX6_wholeExp 9 = .ok (.putfield 20, 3) := by decide +kernel
theorem dX6_wholeExp_12 : decode cX6_wholeExp 12 = .ok (.aload_n 0, 1) := by decide +kernel
theorem dX6_wholeExp_13 : decode cX6_wholeExp 13 = .ok (.getfield 20, 3) := by decide +kernel
theorem dX6_wholeExp_16 : decode cX6_wholeExp 16 = .ok (.aload_n 0, 1) := by decide +kernel
theorem dX6_wholeExp_17 : decode cX6_wholeExp 17 = .ok (.invokevirtual 75, 3) := by decide +kernel
theorem dX6_wholeExp_20 : decode cX6_wholeExp 20 = .ok (.putfield 78, 3) := by decide +kernel
theorem dX6_wholeExp_23 : decode cX6_wholeExp 23 = .ok (.iconst 0, 1) := by decide +kernel
theorem dX6_wholeExp_24 : decode cX6_wholeExp 24 = .ok (.istore_n 1, 1) := by decide +kernel
theorem dX6_wholeExp_25 : decode cX6_wholeExp 25 = .ok (.iload_n 1, 1) := by decide +kernel
theorem dX6_wholeExp_26 : decode cX6_wholeExp 26 = .ok (.sipush 2000, 3) := by decide +kernel
theorem dX6_wholeExp_29 : decode cX6_wholeExp 29 = .ok (.if_icmp .ge 38, 3) := by decide +kernel
theorem dX6_wholeExp_32 : decode cX6_wholeExp 32 = .ok (.aload_n 0, 1) := by decide +kernel
theorem dX6_wholeExp_33 : decode cX6_wholeExp 33 = .ok (.getfield 31, 3) := by decide +kernel
theorem dX6_wholeExp_36 : decode cX6_wholeExp 36 = .ok (.getfield 72, 3) := by decide +kernel
theorem dX6_wholeExp_39 : decode cX6_wholeExp 39 = .ok (.ifCond .ne 28, 3) := by decide +kernel
theorem dX6_wholeExp_67 : decode cX6_wholeExp 67 = .ok (.aload_n 0, 1) := by decide +kernel
theorem dX6_wholeExp_68 : decode cX6_wholeExp 68 = .ok (.getfield 31, 3) := by decide +kernel
theorem dX6_wholeExp_71 : decode cX6_wholeExp 71 = .ok (.getfield 66, 3) := by decide +kernel
theorem dX6_wholeExp_74 : decode cX6_wholeExp 74 = .ok (.bipush 6, 2) := by decide +kernel
theorem dX6_wholeExp_76 : decode cX6_wholeExp 76 = .ok (.if_icmp .eq 18, 3) := by decide +kernel
theorem dX6_wholeExp_94 : decode cX6_wholeExp 94 = .ok (.aload_n 0, 1) := by decide +kernel
theorem dX6_wholeExp_95 : decode cX6_wholeExp 95 = .ok (.getfield 20, 3) := by decide +kernel
theorem dX6_wholeExp_98 : decode cX6_wholeExp 98 = .ok (.areturn, 1) := by decide +kernel
theorem dX6_exp_0 : decode cX6_exp 0 = .ok (.aload_n 0, 1) := by decide +kernel
theorem dX6_exp_1 : decode cX6_exp 1 = .ok (.invokevirtual 126, 3) := by decide +kernel
theorem dX6_exp_4 : decode cX6_exp 4 = .ok (.istore_n 1, 1) := by decide +kernel
theorem dX6_exp_5 : decode cX6_exp 5 = .ok (.aload_n 0, 1) := by decide +kernel
theorem dX6_exp_6 : decode cX6_exp 6 = .ok (.getfield 31, 3) := by decide +kernel
theorem dX6_exp_9 : decode cX6_exp 9 = .ok (.getfield 72, 3) := by decide +kernel
theorem dX6_exp_12 : decode cX6_exp 12 = .ok (.ifCond .ne 15, 3) := by decide +kernel
theorem dX6_exp_27 : decode cX6_exp 27 = .ok (.iload_n 1, 1) := by decide +kernel
theorem dX6_exp_28 : decode cX6_exp 28 = .ok (.ireturn, 1) := by decide +kernel
theorem dX6_cat_0 : decode cX6_cat 0 = .ok (.aload_n 0, 1) := by decide +kernel
theorem dX6_cat_1 : decode cX6_cat 1 = .ok (.invokevirtual 145, 3) := by decide +kernel
theorem dX6_cat_4 : decode cX6_cat 4 = .ok (.istore_n 1, 1) := by decide +kernel
theorem dX6_cat_5 : decode cX6_cat 5 = .ok (.aload_n 0, 1) := by decide +kernel
theorem dX6_cat_6 : decode cX6_cat 6 = .ok (.getfield 31, 3) := by decide +kernel
theorem dX6_cat_9 : decode cX6_cat 9 = .ok (.getfield 72, 3) := by decide +kernel
theorem dX6_cat_12 : decode cX6_cat 12 = .ok (.ifCond .ne 15, 3) := by decide +kernel
theorem dX6_cat_27 : decode cX6_cat 27 = .ok (.iload_n 1, 1) := by decide +kernel
theorem dX6_cat_28 : decode cX6_cat 28 = .ok (.ireturn, 1) := by decide +kernel
theorem dX6_sum_0 : decode cX6_sum 0 = .ok (.aload_n 0, 1) := by decide +kernel
theorem dX6_sum_1 : decode cX6_sum 1 = .ok (.invokevirtual 152, 3) := by decide +kernel
theorem dX6_sum_4 : decode cX6_sum 4 = .ok (.istore_n 1, 1) := by decide +kernel
theorem dX6_sum_5 : decode cX6_sum 5 = .ok (.iconst 0, 1) := by decide +kernel
theorem dX6_sum_6 : decode cX6_sum 6 = .ok (.istore_n 2, 1) := by decide +kernel
theorem dX6_sum_7 : decode cX6_sum 7 = .ok (.iload_n 2, 1) := by decide +kernel
theorem dX6_sum_8 : decode cX6_sum 8 = .ok (.sipush 2000, 3) := by decide +kernel
theorem dX6_sum_11 : decode cX6_sum 11 = .ok (.if_icmp .ge 86, 3) := by decide +kernel
theorem dX6_sum_14 : decode cX6_sum 14 = .ok (.aload_n 0, 1) := by decide +kernel
theorem dX6_sum_15 : decode cX6_sum 15 = .ok (.getfield 31, 3) := by decide +kernel
theorem dX6_sum_18 : decode cX6_sum 18 = .ok (.getfield 72, 3) := by decide +kernel
theorem dX6_sum_21 : decode cX6_sum 21 = .ok (.ifCond .ne 76, 3) := by decide +kernel
theorem dX6_sum_97 : decode cX6_sum 97 = .ok (.iload_n 1, 1) := by decide +kernel
theorem dX6_sum_98 : decode cX6_sum 98 = .ok (.ireturn, 1) := by decide +kernel
theorem dX6_app_0 : decode cX6_app 0 = .ok (.aload_n 0, 1) := by decide +kernel
theorem dX6_app_1 : decode cX6_app 1 = .ok (.getfield 31, 3) := by decide +kernel
theorem dX6_app_4 : decode cX6_app 4 = .ok (.getfield 66, 3) := by decide +kernel
theorem dX6_app_7 : decode cX6_app 7 = .ok (.iconst 1, 1) := by decide +kernel
theorem dX6_app_8 : decode cX6_app 8 = .ok (.if_icmp .eq 8, 3) := by decide +kernel
theorem dX6_app_11 : decode cX6_app 11 = .ok (.aload_n 0, 1) := by decide +kernel
theorem dX6_app_12 : decode cX6_app 12 = .ok (.invokevirtual 162, 3) := by decide +kernel
theorem dX6_app_15 : decode cX6_app 15 = .ok (.ireturn, 1) := by decide +kernel
theorem dX6_arg_0 : decode cX6_arg 0 = .ok (.aload_n 0, 1) := by decide +kernel
theorem dX6_arg_1 : decode cX6_arg 1 = .ok (.getfield 31, 3) := by decide +kernel
theorem dX6_arg_4 : decode cX6_arg 4 = .ok (.getfield 66, 3) := by decide +kernel
theorem dX6_arg_7 : decode cX6_arg 7 = .ok (.iconst 1, 1) := by decide +kernel
theorem dX6_arg_8 : decode cX6_arg 8 = .ok (.if_icmp .ne 8, 3) := by decide +kernel
theorem dX6_arg_16 : decode cX6_arg 16 = .ok (.aload_n 0, 1) := by decide +kernel
theorem dX6_arg_17 : decode cX6_arg 17 = .ok (.getfield 31, 3) := by decide +kernel
theorem dX6_arg_20 : decode cX6_arg 20 = .ok (.getfield 66, 3) := by decide +kernel
theorem dX6_arg_23 : decode cX6_arg 23 = .ok (.iconst 4, 1) := by decide +kernel
theorem dX6_arg_24 : decode cX6_arg 24 = .ok (.if_icmp .ne 7, 3) := by decide +kernel
theorem dX6_arg_31 : decode cX6_arg 31 = .ok (.iconst 0, 1) := by decide +kernel
theorem dX6_arg_32 : decode cX6_arg 32 = .ok (.istore_n 1, 1) := by decide +kernel
theorem dX6_arg_33 : decode cX6_arg 33 = .ok (.iload_n 1, 1) := by decide +kernel
theorem dX6_arg_34 : decode cX6_arg 34 = .ok (.ifCond .ne 32, 3) := by decide +kernel
theorem dX6_arg_37 : decode cX6_arg 37 = .ok (.aload_n 0, 1) := by decide +kernel
theorem dX6_arg_38 : decode cX6_arg 38 = .ok (.getfield 31, 3) := by decide +kernel
theorem dX6_arg_41 : decode cX6_arg 41 = .ok (.getfield 66, 3) := by decide +kernel
theorem dX6_arg_44 : decode cX6_arg 44 = .ok (.bipush 40, 2) := by decide +kernel
theorem dX6_arg_46 : decode cX6_arg 46 = .ok (.if_icmp .eq 20, 3) := by decide +kernel
theorem dX6_arg_49 : decode cX6_arg 49 = .ok (.aload_n 0, 1) := by decide +kernel
theorem dX6_arg_50 : decode cX6_arg 50 = .ok (.getfield 31, 3) := by decide +kernel
theorem dX6_arg_53 : decode cX6_arg 53 = .ok (.iconst 1, 1) := by decide +kernel
theorem dX6_arg_54 : decode cX6_arg 54 = .ok (.aload_n 0, 1) := by decide +kernel
theorem dX6_arg_55 : decode cX6_arg 55 = .ok (.getfield 31, 3) := by decide +kernel
theorem dX6_arg_58 : decode cX6_arg 58 = .ok (.getfield 81, 3) := by decide +kernel
theorem dX6_arg_61 : decode cX6_arg 61 = .ok (.invokevirtual 84, 3) := by decide +kernel
theorem dX6_arg_64 : decode cX6_arg 64 = .ok (.iconst 0, 1) := by decide +kernel
theorem dX6_arg_65 : decode cX6_arg 65 = .ok (.ireturn, 1) := by decide +kernel
theorem dX8_append_0 : decode cX8_append 0 = .ok (.bipush 24, 2) := by decide +kernel
theorem dX8_append_2 : decode cX8_append 2 = .ok (.istore_n 2, 1) := by decide +kernel
theorem dX8_append_3 : decode cX8_append 3 = .ok (.iload_n 2, 1) := by decide +kernel
theorem dX8_append_4 : decode cX8_append 4 = .ok (.ifCond .lt 42, 3) := by decide +kernel
theorem dX8_append_7 : decode cX8_append 7 = .ok (.aload_n 0, 1) := by decide +kernel
theorem dX8_append_8 : decode cX8_append 8 = .ok (.getfield 15, 3) := by decide +kernel
theorem dX8_append_11 : decode cX8_append 11 = .ok (.sipush 2000, 3) := by decide +kernel
theorem dX8_append_14 : decode cX8_append 14 = .ok (.if_icmp .ge 32, 3) := by decide +kernel
theorem dX8_append_17 : decode cX8_append 17 = .ok (.aload_n 0, 1) := by decide +kernel
theorem dX8_append_18 : decode cX8_append 18 = .ok (.getfield 9, 3) := by decide +kernel
theorem dX8_append_21 : decode cX8_append 21 = .ok (.aload_n 0, 1) := by decide +kernel
theorem dX8_append_22 : decode cX8_append 22 = .ok (.getfield 15, 3) := by decide +kernel
theorem dX8_append_25 : decode cX8_append 25 = .ok (.iload_n 1, 1) := by decide +kernel
theorem dX8_append_26 : decode cX8_append 26 = .ok (.iload_n 2, 1) := by decide +kernel
theorem dX8_append_27 : decode cX8_append 27 = .ok (.iushr, 1) := by decide +kernel
theorem dX8_append_28 : decode cX8_append 28 = .ok (.i2b, 1) := by decide +kernel
theorem dX8_append_29 : decode cX8_append 29 = .ok (.bastore, 1) := by decide +kernel
theorem dX8_append_30 : decode cX8_append 30 = .ok (.aload_n 0, 1) := by decide +kernel
theorem dX8_append_31 : decode cX8_append 31 = .ok (.dup, 1) := by decide +kernel
theorem dX8_append_32 : decode cX8_append 32 = .ok (.getfield 15, 3) := by decide +kernel
theorem dX8_append_35 : decode cX8_append 35 = .ok (.iconst 1, 1) := by decide +kernel
theorem dX8_append_36 : decode cX8_append 36 = .ok (.iadd, 1) := by decide +kernel
theorem dX8_append_37 : decode cX8_append 37 = .ok (.putfield 15, 3) := by decide +kernel
theorem dX8_append_40 : decode cX8_append 40 = .ok (.iinc 2 (-8), 3) := by decide +kernel
theorem dX8_append_43 : decode cX8_append 43 = .ok (.goto (-40), 3) := by decide +kernel
theorem dX8_append_46 : decode cX8_append 46 = .ok (.return_, 1) := by decide +kernel
theorem dX8_restart_0 : decode cX8_restart 0 = .ok (.aload_n 0, 1) := by decide +kernel
theorem dX8_restart_1 : decode cX8_restart 1 = .ok (.iconst 0, 1) := by decide +kernel
theorem dX8_restart_2 : decode cX8_restart 2 = .ok (.putfield 19, 3) := by decide +kernel
theorem dX8_restart_5 : decode cX8_restart 5 = .ok (.aload_n 0, 1) := by decide +kernel
theorem dX8_restart_6 : decode cX8_restart 6 = .ok (.iconst 0, 1) := by decide +kernel
theorem dX8_restart_7 : decode cX8_restart 7 = .ok (.putfield 22, 3) := by decide +kernel
theorem dX8_restart_10 : decode cX8_restart 10 = .ok (.aload_n 0, 1) := by decide +kernel
theorem dX8_restart_11 : decode cX8_restart 11 = .ok (.iconst 0, 1) := by decide +kernel
theorem dX8_restart_12 : decode cX8_restart 12 = .ok (.putfield 25, 3) := by decide +kernel
theorem dX8_restart_15 : decode cX8_restart 15 = .ok (.aload_n 0, 1) := by decide +kernel
theorem dX8_restart_16 : decode cX8_restart 16 = .ok (.iconst 0, 1) := by decide +kernel
theorem dX8_restart_17 : decode cX8_restart 17 = .ok (.putfield 34, 3) := by decide +kernel
theorem dX8_restart_20 : decode cX8_restart 20 = .ok (.aload_n 0, 1) := by decide +kernel
theorem dX8_restart_21 : decode cX8_restart 21 = .ok (.invokevirtual 47, 3) := by decide +kernel
theorem dX8_restart_24 : decode cX8_restart 24 = .ok (.return_, 1) := by decide +kernel
theorem dX8_fail_0 : decode cX8_fail 0 = .ok (.aload_n 0, 1) := by decide +kernel
theorem dX8_fail_1 : decode cX8_fail 1 = .ok (.getfield 19, 3) := by decide +kernel
theorem dX8_fail_4 : decode cX8_fail 4 = .ok (.ifCond .ne 13, 3) := by decide +kernel
theorem dX8_fail_7 : decode cX8_fail 7 = .ok (.aload_n 0, 1) := by decide +kernel
theorem dX8_fail_8 : decode cX8_fail 8 = .ok (.iload_n 1, 1) := by decide +kernel
theorem dX8_fail_9 : decode cX8_fail 9 = .ok (.putfield 19, 3) := by decide +kernel
theorem dX8_fail_12 : decode cX8_fail 12 = .ok (.aload_n 0, 1) := by decide +kernel
theorem dX8_fail_13 : decode cX8_fail 13 = .ok (.iload_n 2, 1) := by decide +kernel
theorem dX8_fail_14 : decode cX8_fail 14 = .ok (.putfield 22, 3) := by decide +kernel
theorem dX8_fail_17 : decode cX8_fail 17 = .ok (.return_, 1) := by decide +kernel
theorem dX8_byteAt_0 : decode cX8_byteAt 0 = .ok (.iload_n 1, 1) := by decide +kernel
theorem dX8_byteAt_1 : decode cX8_byteAt 1 = .ok (.ifCond .lt 20, 3) := by decide +kernel
theorem dX8_byteAt_4 : decode cX8_byteAt 4 = .ok (.iload_n 1, 1) := by decide +kernel
theorem dX8_byteAt_5 : decode cX8_byteAt 5 = .ok (.aload_n 0, 1) := by decide +kernel
theorem dX8_byteAt_6 : decode cX8_byteAt 6 = .ok (.getfield 15, 3) := by decide +kernel
theorem dX8_byteAt_9 : decode cX8_byteAt 9 = .ok (.if_icmp .ge 12, 3) := by decide +kernel
theorem dX8_byteAt_21 : decode cX8_byteAt 21 = .ok (.iconst 0, 1) := by decide +kernel
theorem dX8_byteAt_22 : decode cX8_byteAt 22 = .ok (.ireturn, 1) := by decide +kernel
theorem dX8_advance_0 : decode cX8_advance 0 = .ok (.aload_n 0, 1) := by decide +kernel
theorem dX8_advance_1 : decode cX8_advance 1 = .ok (.aload_n 0, 1) := by decide +kernel
theorem dX8_advance_2 : decode cX8_advance 2 = .ok (.getfield 34, 3) := by decide +kernel
theorem dX8_advance_5 : decode cX8_advance 5 = .ok (.putfield 31, 3) := by decide +kernel
theorem dX8_advance_8 : decode cX8_advance 8 = .ok (.aload_n 0, 1) := by decide +kernel
theorem dX8_advance_9 : decode cX8_advance 9 = .ok (.getfield 31, 3) := by decide +kernel
theorem dX8_advance_12 : decode cX8_advance 12 = .ok (.aload_n 0, 1) := by decide +kernel
theorem dX8_advance_13 : decode cX8_advance 13 = .ok (.getfield 15, 3) := by decide +kernel
theorem dX8_advance_16 : decode cX8_advance 16 = .ok (.if_icmp .ge 30, 3) := by decide +kernel
theorem dX8_advance_46 : decode cX8_advance 46 = .ok (.aload_n 0, 1) := by decide +kernel
theorem dX8_advance_47 : decode cX8_advance 47 = .ok (.aload_n 0, 1) := by decide +kernel
theorem dX8_advance_48 : decode cX8_advance 48 = .ok (.getfield 31, 3) := by decide +kernel
theorem dX8_advance_51 : decode cX8_advance 51 = .ok (.iconst 1, 1) := by decide +kernel
theorem dX8_advance_52 : decode cX8_advance 52 = .ok (.iadd, 1) := by decide +kernel
theorem dX8_advance_53 : decode cX8_advance 53 = .ok (.putfield 34, 3) := by decide +kernel
theorem dX8_advance_56 : decode cX8_advance 56 = .ok (.aload_n 0, 1) := by decide +kernel
theorem dX8_advance_57 : decode cX8_advance 57 = .ok (.aload_n 0, 1) := by decide +kernel
theorem dX8_advance_58 : decode cX8_advance 58 = .ok (.getfield 31, 3) := by decide +kernel
theorem dX8_advance_61 : decode cX8_advance 61 = .ok (.invokevirtual 54, 3) := by decide +kernel
theorem dX8_advance_64 : decode cX8_advance 64 = .ok (.istore_n 1, 1) := by decide +kernel
theorem dX8_advance_65 : decode cX8_advance 65 = .ok (.aload_n 0, 1) := by decide +kernel
theorem dX8_advance_66 : decode cX8_advance 66 = .ok (.getfield 31, 3) := by decide +kernel
theorem dX8_advance_69 : decode cX8_advance 69 = .ok (.aload_n 0, 1) := by decide +kernel
theorem dX8_advance_70 : decode cX8_advance 70 = .ok (.getfield 15, 3) := by decide +kernel
theorem dX8_advance_73 : decode cX8_advance 73 = .ok (.if_icmp .lt 20, 3) := by decide +kernel
theorem dX8_advance_76 : decode cX8_advance 76 = .ok (.aload_n 0, 1) := by decide +kernel
theorem dX8_advance_77 : decode cX8_advance 77 = .ok (.bipush 6, 2) := by decide +kernel
theorem dX8_advance_79 : decode cX8_advance 79 = .ok (.putfield 28, 3) := by decide +kernel
theorem dX8_advance_82 : decode cX8_advance 82 = .ok (.aload_n 0, 1) := by decide +kernel
theorem dX8_advance_83 : decode cX8_advance 83 = .ok (.aload_n 0, 1) := by decide +kernel
theorem dX8_advance_84 : decode cX8_advance 84 = .ok (.getfield 31, 3) := by decide +kernel
theorem dX8_advance_87 : decode cX8_advance 87 = .ok (.putfield 34, 3) := by decide +kernel
theorem dX8_advance_90 : decode cX8_advance 90 = .ok (.goto 60, 3) := by decide +kernel
theorem dX8_advance_150 : decode cX8_advance 150 = .ok (.return_, 1) := by decide +kernel
theorem dX11_feed_0 : decode cX11_feed 0 = .ok (.aload_n 0, 1) := by decide +kernel
theorem dX11_feed_1 : decode cX11_feed 1 = .ok (.getfield 10, 3) := by decide +kernel
theorem dX11_feed_4 : decode cX11_feed 4 = .ok (.getfield 98, 3) := by decide +kernel
theorem dX11_feed_7 : decode cX11_feed 7 = .ok (.bipush 20, 2) := by decide +kernel
theorem dX11_feed_9 : decode cX11_feed 9 = .ok (.iadd, 1) := by decide +kernel
theorem dX11_feed_10 : decode cX11_feed 10 = .ok (.sipush 2000, 3) := by decide +kernel
theorem dX11_feed_13 : decode cX11_feed 13 = .ok (.if_icmp .le 5, 3) := by decide +kernel
theorem dX11_feed_18 : decode cX11_feed 18 = .ok (.aload_n 0, 1) := by decide +kernel
theorem dX11_feed_19 : decode cX11_feed 19 = .ok (.getfield 10, 3) := by decide +kernel
theorem dX11_feed_22 : decode cX11_feed 22 = .ok (.iload_n 1, 1) := by decide +kernel
theorem dX11_feed_23 : decode cX11_feed 23 = .ok (.invokevirtual 101, 3) := by decide +kernel
theorem dX11_feed_26 : decode cX11_feed 26 = .ok (.aload_n 0, 1) := by decide +kernel
theorem dX11_feed_27 : decode cX11_feed 27 = .ok (.getfield 10, 3) := by decide +kernel
theorem dX11_feed_30 : decode cX11_feed 30 = .ok (.iload_n 2, 1) := by decide +kernel
theorem dX11_feed_31 : decode cX11_feed 31 = .ok (.invokevirtual 101, 3) := by decide +kernel
theorem dX11_feed_34 : decode cX11_feed 34 = .ok (.aload_n 0, 1) := by decide +kernel
theorem dX11_feed_35 : decode cX11_feed 35 = .ok (.getfield 10, 3) := by decide +kernel
theorem dX11_feed_38 : decode cX11_feed 38 = .ok (.iload_n 3, 1) := by decide +kernel
theorem dX11_feed_39 : decode cX11_feed 39 = .ok (.invokevirtual 101, 3) := by decide +kernel
theorem dX11_feed_42 : decode cX11_feed 42 = .ok (.aload_n 0, 1) := by decide +kernel
theorem dX11_feed_43 : decode cX11_feed 43 = .ok (.getfield 10, 3) := by decide +kernel
theorem dX11_feed_46 : decode cX11_feed 46 = .ok (.iload 4, 2) := by decide +kernel
theorem dX11_feed_48 : decode cX11_feed 48 = .ok (.invokevirtual 101, 3) := by decide +kernel
theorem dX11_feed_51 : decode cX11_feed 51 = .ok (.aload_n 0, 1) := by decide +kernel
theorem dX11_feed_52 : decode cX11_feed 52 = .ok (.getfield 10, 3) := by decide +kernel
theorem dX11_feed_55 : decode cX11_feed 55 = .ok (.iload 5, 2) := by decide +kernel
theorem dX11_feed_57 : decode cX11_feed 57 = .ok (.invokevirtual 101, 3) := by decide +kernel
theorem dX11_feed_60 : decode cX11_feed 60 = .ok (.iconst 1, 1) := by decide +kernel
theorem dX11_feed_61 : decode cX11_feed 61 = .ok (.ireturn, 1) := by decide +kernel
theorem dX11_end_0 : decode cX11_end 0 = .ok (.iload_n 1, 1) := by decide +kernel
theorem dX11_end_1 : decode cX11_end 1 = .ok (.ifCond .lt 14, 3) := by decide +kernel
theorem dX11_end_4 : decode cX11_end 4 = .ok (.iload_n 1, 1) := by decide +kernel
theorem dX11_end_5 : decode cX11_end 5 = .ok (.aload_n 0, 1) := by decide +kernel
theorem dX11_end_6 : decode cX11_end 6 = .ok (.getfield 10, 3) := by decide +kernel
theorem dX11_end_9 : decode cX11_end 9 = .ok (.getfield 98, 3) := by decide +kernel
theorem dX11_end_12 : decode cX11_end 12 = .ok (.if_icmp .le 5, 3) := by decide +kernel
theorem dX11_end_15 : decode cX11_end 15 = .ok (.iconst 0, 1) := by decide +kernel
theorem dX11_end_16 : decode cX11_end 16 = .ok (.ireturn, 1) := by decide +kernel
theorem dX11_end_17 : decode cX11_end 17 = .ok (.aload_n 0, 1) := by decide +kernel
theorem dX11_end_18 : decode cX11_end 18 = .ok (.getfield 10, 3) := by decide +kernel
theorem dX11_end_21 : decode cX11_end 21 = .ok (.iload_n 1, 1) := by decide +kernel
theorem dX11_end_22 : decode cX11_end 22 = .ok (.putfield 98, 3) := by decide +kernel
theorem dX11_end_25 : decode cX11_end 25 = .ok (.iconst 1, 1) := by decide +kernel
theorem dX11_end_26 : decode cX11_end 26 = .ok (.ireturn, 1) := by decide +kernel
theorem dX11_read_0 : decode cX11_read 0 = .ok (.aload_n 0, 1) := by decide +kernel
theorem dX11_read_1 : decode cX11_read 1 = .ok (.invokevirtual 105, 3) := by decide +kernel
theorem dX11_read_4 : decode cX11_read 4 = .ok (.aload_n 0, 1) := by decide +kernel
theorem dX11_read_5 : decode cX11_read 5 = .ok (.getfield 55, 3) := by decide +kernel
theorem dX11_read_8 : decode cX11_read 8 = .ok (.invokevirtual 108, 3) := by decide +kernel
theorem dX11_read_11 : decode cX11_read 11 = .ok (.istore_n 1, 1) := by decide +kernel
theorem dX11_read_12 : decode cX11_read 12 = .ok (.iconst 0, 1) := by decide +kernel
theorem dX11_read_13 : decode cX11_read 13 = .ok (.istore_n 2, 1) := by decide +kernel
theorem dX11_read_14 : decode cX11_read 14 = .ok (.iload_n 2, 1) := by decide +kernel
theorem dX11_read_15 : decode cX11_read 15 = .ok (.sipush 2000, 3) := by decide +kernel
theorem dX11_read_18 : decode cX11_read 18 = .ok (.if_icmp .gt 43, 3) := by decide +kernel
theorem dX11_read_21 : decode cX11_read 21 = .ok (.iload_n 1, 1) := by decide +kernel
theorem dX11_read_22 : decode cX11_read 22 = .ok (.ifCond .eq 39, 3) := by decide +kernel
theorem dX11_read_61 : decode cX11_read 61 = .ok (.aload_n 0, 1) := by decide +kernel
theorem dX11_read_62 : decode cX11_read 62 = .ok (.getfield 10, 3) := by decide +kernel
theorem dX11_read_65 : decode cX11_read 65 = .ok (.getfield 120, 3) := by decide +kernel
theorem dX11_read_68 : decode cX11_read 68 = .ok (.ifCond .eq 13, 3) := by decide +kernel
theorem dX11_read_81 : decode cX11_read 81 = .ok (.aload_n 0, 1) := by decide +kernel
theorem dX11_read_82 : decode cX11_read 82 = .ok (.getfield 19, 3) := by decide +kernel
theorem dX11_read_85 : decode cX11_read 85 = .ok (.getfield 123, 3) := by decide +kernel
theorem dX11_read_88 : decode cX11_read 88 = .ok (.istore_n 2, 1) := by decide +kernel
theorem dX11_read_89 : decode cX11_read 89 = .ok (.iload_n 2, 1) := by decide +kernel
theorem dX11_read_90 : decode cX11_read 90 = .ok (.ifCond .ne 18, 3) := by decide +kernel
theorem dX11_read_93 : decode cX11_read 93 = .ok (.aload_n 0, 1) := by decide +kernel
theorem dX11_read_94 : decode cX11_read 94 = .ok (.getfield 47, 3) := by decide +kernel
theorem dX11_read_97 : decode cX11_read 97 = .ok (.invokevirtual 124, 3) := by decide +kernel
theorem dX11_read_100 : decode cX11_read 100 = .ok (.bipush 40, 2) := by decide +kernel
theorem dX11_read_102 : decode cX11_read 102 = .ok (.if_icmp .le 6, 3) := by decide +kernel
theorem dX11_read_108 : decode cX11_read 108 = .ok (.iload_n 2, 1) := by decide +kernel
theorem dX11_read_109 : decode cX11_read 109 = .ok (.ifCond .ne 14, 3) := by decide +kernel
theorem dX11_read_112 : decode cX11_read 112 = .ok (.aload_n 0, 1) := by decide +kernel
theorem dX11_read_113 : decode cX11_read 113 = .ok (.getfield 47, 3) := by decide +kernel
theorem dX11_read_116 : decode cX11_read 116 = .ok (.aload_n 0, 1) := by decide +kernel
theorem dX11_read_117 : decode cX11_read 117 = .ok (.getfield 43, 3) := by decide +kernel
theorem dX11_read_120 : decode cX11_read 120 = .ok (.invokestatic 127, 3) := by decide +kernel
theorem dX11_read_123 : decode cX11_read 123 = .ok (.aload_n 0, 1) := by decide +kernel
theorem dX11_read_124 : decode cX11_read 124 = .ok (.iload_n 2, 1) := by decide +kernel
theorem dX11_read_125 : decode cX11_read 125 = .ok (.invokevirtual 131, 3) := by decide +kernel
theorem dX11_read_128 : decode cX11_read 128 = .ok (.ireturn, 1) := by decide +kernel
theorem dX11_hang_0 : decode cX11_hang 0 = .ok (.iload_n 1, 1) := by decide +kernel
theorem dX11_hang_1 : decode cX11_hang 1 = .ok (.invokestatic 135, 3) := by decide +kernel
theorem dX11_hang_4 : decode cX11_hang 4 = .ok (.ifCond .ne 5, 3) := by decide +kernel
theorem dX11_hang_7 : decode cX11_hang 7 = .ok (.iconst (-1), 1) := by decide +kernel
theorem dX11_hang_8 : decode cX11_hang 8 = .ok (.ireturn, 1) := by decide +kernel
theorem dX11_hang_9 : decode cX11_hang 9 = .ok (.aload_n 0, 1) := by decide +kernel
theorem dX11_hang_10 : decode cX11_hang 10 = .ok (.invokevirtual 105, 3) := by decide +kernel
theorem dX11_hang_13 : decode cX11_hang 13 = .ok (.aload_n 0, 1) := by decide +kernel
theorem dX11_hang_14 : decode cX11_hang 14 = .ok (.getfield 55, 3) := by decide +kernel
theorem dX11_hang_17 : decode cX11_hang 17 = .ok (.invokevirtual 139, 3) := by decide +kernel
theorem dX11_hang_20 : decode cX11_hang 20 = .ok (.astore_n 2, 1) := by decide +kernel
theorem dX11_hang_21 : decode cX11_hang 21 = .ok (.aload_n 0, 1) := by decide +kernel
theorem dX11_hang_22 : decode cX11_hang 22 = .ok (.getfield 10, 3) := by decide +kernel
theorem dX11_hang_25 : decode cX11_hang 25 = .ok (.getfield 120, 3) := by decide +kernel
theorem dX11_hang_28 : decode cX11_hang 28 = .ok (.ifCond .ne 14, 3) := by decide +kernel
theorem dX11_hang_42 : decode cX11_hang 42 = .ok (.aconst_null, 1) := by decide +kernel
theorem dX11_hang_43 : decode cX11_hang 43 = .ok (.astore_n 3, 1) := by decide +kernel
theorem dX11_hang_44 : decode cX11_hang 44 = .ok (.aload_n 0, 1) := by decide +kernel
theorem dX11_hang_45 : decode cX11_hang 45 = .ok (.getfield 10, 3) := by decide +kernel
theorem dX11_hang_48 : decode cX11_hang 48 = .ok (.getfield 120, 3) := by decide +kernel
theorem dX11_hang_51 : decode cX11_hang 51 = .ok (.ifCond .eq 13, 3) := by decide +kernel
theorem dX11_hang_54 : decode cX11_hang 54 = .ok (.aload_n 0, 1) := by decide +kernel
theorem dX11_hang_55 : decode cX11_hang 55 = .ok (.getfield 10, 3) := by decide +kernel
theorem dX11_hang_58 : decode cX11_hang 58 = .ok (.getfield 120, 3) := by decide +kernel
theorem dX11_hang_61 : decode cX11_hang 61 = .ok (.goto 10, 3) := by decide +kernel
theorem dX11_hang_71 : decode cX11_hang 71 = .ok (.istore 4, 2) := by decide +kernel
theorem dX11_hang_73 : decode cX11_hang 73 = .ok (.iload 4, 2) := by decide +kernel
theorem dX11_hang_75 : decode cX11_hang 75 = .ok (.ifCond .ne 9, 3) := by decide +kernel
theorem dX11_hang_84 : decode cX11_hang 84 = .ok (.aload_n 0, 1) := by decide +kernel
theorem dX11_hang_85 : decode cX11_hang 85 = .ok (.iload 4, 2) := by decide +kernel
theorem dX11_hang_87 : decode cX11_hang 87 = .ok (.invokevirtual 131, 3) := by decide +kernel
theorem dX11_hang_90 : decode cX11_hang 90 = .ok (.ireturn, 1) := by decide +kernel
theorem dX11_hush_0 : decode cX11_hush 0 = .ok (.iload_n 1, 1) := by decide +kernel
theorem dX11_hush_1 : decode cX11_hush 1 = .ok (.invokestatic 135, 3) := by decide +kernel
theorem dX11_hush_4 : decode cX11_hush 4 = .ok (.ifCond .ne 5, 3) := by decide +kernel
theorem dX11_hush_7 : decode cX11_hush 7 = .ok (.iconst 0, 1) := by decide +kernel
theorem dX11_hush_8 : decode cX11_hush 8 = .ok (.ireturn, 1) := by decide +kernel
theorem dX11_hush_9 : decode cX11_hush 9 = .ok (.aload_n 0, 1) := by decide +kernel
theorem dX11_hush_10 : decode cX11_hush 10 = .ok (.iload_n 1, 1) := by decide +kernel
theorem dX11_hush_11 : decode cX11_hush 11 = .ok (.aconst_null, 1) := by decide +kernel
theorem dX11_hush_12 : decode cX11_hush 12 = .ok (.invokevirtual 146, 3) := by decide +kernel
theorem dX11_hush_15 : decode cX11_hush 15 = .ok (.iconst 1, 1) := by decide +kernel
theorem dX11_hush_16 : decode cX11_hush 16 = .ok (.ireturn, 1) := by decide +kernel
theorem dX11_told_0 : decode cX11_told 0 = .ok (.aload_n 0, 1) := by decide +kernel
theorem dX11_told_1 : decode cX11_told 1 = .ok (.getfield 85, 3) := by decide +kernel
theorem dX11_told_4 : decode cX11_told 4 = .ok (.ifCond .ne 5, 3) := by decide +kernel
theorem dX11_told_7 : decode cX11_told 7 = .ok (.iconst (-1), 1) := by decide +kernel
theorem dX11_told_8 : decode cX11_told 8 = .ok (.ireturn, 1) := by decide +kernel
theorem dX11_bound_0 : decode cX11_bound 0 = .ok (.iload_n 1, 1) := by decide +kernel
theorem dX11_bound_1 : decode cX11_bound 1 = .ok (.invokestatic 135, 3) := by decide +kernel
theorem dX11_bound_4 : decode cX11_bound 4 = .ok (.ifCond .eq 12, 3) := by decide +kernel
theorem dX11_bound_7 : decode cX11_bound 7 = .ok (.aload_n 0, 1) := by decide +kernel
theorem dX11_bound_8 : decode cX11_bound 8 = .ok (.getfield 61, 3) := by decide +kernel
theorem dX11_bound_11 : decode cX11_bound 11 = .ok (.iload_n 1, 1) := by decide +kernel
theorem dX11_bound_12 : decode cX11_bound 12 = .ok (.aaload, 1) := by decide +kernel
theorem dX11_bound_13 : decode cX11_bound 13 = .ok (.ifnonnull 5, 3) := by decide +kernel
theorem dX11_bound_16 : decode cX11_bound 16 = .ok (.iconst (-1), 1) := by decide +kernel
theorem dX11_bound_17 : decode cX11_bound 17 = .ok (.ireturn, 1) := by decide +kernel
theorem dX11_ask_0 : decode cX11_ask 0 = .ok (.iload_n 1, 1) := by decide +kernel
theorem dX11_ask_1 : decode cX11_ask 1 = .ok (.invokestatic 135, 3) := by decide +kernel
theorem dX11_ask_4 : decode cX11_ask 4 = .ok (.ifCond .eq 25, 3) := by decide +kernel
theorem dX11_ask_7 : decode cX11_ask 7 = .ok (.aload_n 0, 1) := by decide +kernel
theorem dX11_ask_8 : decode cX11_ask 8 = .ok (.getfield 61, 3) := by decide +kernel
theorem dX11_ask_11 : decode cX11_ask 11 = .ok (.iload_n 1, 1) := by decide +kernel
theorem dX11_ask_12 : decode cX11_ask 12 = .ok (.aaload, 1) := by decide +kernel
theorem dX11_ask_13 : decode cX11_ask 13 = .ok (.ifnull 16, 3) := by decide +kernel
theorem dX11_ask_29 : decode cX11_ask 29 = .ok (.iconst (-1), 1) := by decide +kernel
theorem dX11_ask_30 : decode cX11_ask 30 = .ok (.ireturn, 1) := by decide +kernel
theorem dX11_event_0 : decode cX11_event 0 = .ok (.iload_n 1, 1) := by decide +kernel
theorem dX11_event_1 : decode cX11_event 1 = .ok (.ifCond .lt 14, 3) := by decide +kernel
theorem dX11_event_4 : decode cX11_event 4 = .ok (.iload_n 1, 1) := by decide +kernel
theorem dX11_event_5 : decode cX11_event 5 = .ok (.aload_n 0, 1) := by decide +kernel
theorem dX11_event_6 : decode cX11_event 6 = .ok (.getfield 33, 3) := by decide +kernel
theorem dX11_event_9 : decode cX11_event 9 = .ok (.getfield 171, 3) := by decide +kernel
theorem dX11_event_12 : decode cX11_event 12 = .ok (.if_icmp .lt 5, 3) := by decide +kernel
theorem dX11_event_15 : decode cX11_event 15 = .ok (.iconst (-1), 1) := by decide +kernel
theorem dX11_event_16 : decode cX11_event 16 = .ok (.ireturn, 1) := by decide +kernel
theorem dX11_letter_0 : decode cX11_letter 0 = .ok (.aload_n 0, 1) := by decide +kernel
theorem dX11_letter_1 : decode cX11_letter 1 = .ok (.getfield 33, 3) := by decide +kernel
theorem dX11_letter_4 : decode cX11_letter 4 = .ok (.iload_n 1, 1) := by decide +kernel
theorem dX11_letter_5 : decode cX11_letter 5 = .ok (.iload_n 2, 1) := by decide +kernel
theorem dX11_letter_6 : decode cX11_letter 6 = .ok (.invokevirtual 201, 3) := by decide +kernel
theorem dX11_letter_9 : decode cX11_letter 9 = .ok (.ireturn, 1) := by decide +kernel
theorem dX11_play_0 : decode cX11_play 0 = .ok (.iload_n 1, 1) := by decide +kernel
theorem dX11_play_1 : decode cX11_play 1 = .ok (.iconst 1, 1) := by decide +kernel
theorem dX11_play_2 : decode cX11_play 2 = .ok (.if_icmp .lt 21, 3) := by decide +kernel
theorem dX11_play_5 : decode cX11_play 5 = .ok (.iload_n 1, 1) := by decide +kernel
theorem dX11_play_6 : decode cX11_play 6 = .ok (.sipush 3840, 3) := by decide +kernel
theorem dX11_play_9 : decode cX11_play 9 = .ok (.if_icmp .gt 14, 3) := by decide +kernel
theorem dX11_play_12 : decode cX11_play 12 = .ok (.aload_n 0, 1) := by decide +kernel
theorem dX11_play_13 : decode cX11_play 13 = .ok (.getfield 78, 3) := by decide +kernel
theorem dX11_play_16 : decode cX11_play 16 = .ok (.iload_n 1, 1) := by decide +kernel
theorem dX11_play_17 : decode cX11_play 17 = .ok (.iadd, 1) := by decide +kernel
theorem dX11_play_18 : decode cX11_play 18 = .ok (.ldc 204, 2) := by decide +kernel
theorem dX11_play_20 : decode cX11_play 20 = .ok (.if_icmp .le 5, 3) := by decide +kernel
theorem dX11_play_23 : decode cX11_play 23 = .ok (.iconst (-1), 1) := by decide +kernel
theorem dX11_play_24 : decode cX11_play 24 = .ok (.ireturn, 1) := by decide +kernel
theorem dX11_play_25 : decode cX11_play 25 = .ok (.aload_n 0, 1) := by decide +kernel
theorem dX11_play_26 : decode cX11_play 26 = .ok (.getfield 37, 3) := by decide +kernel
theorem dX11_play_29 : decode cX11_play 29 = .ok (.iconst 0, 1) := by decide +kernel
theorem dX11_play_30 : decode cX11_play 30 = .ok (.putfield 171, 3) := by decide +kernel
theorem dX11_play_33 : decode cX11_play 33 = .ok (.aload_n 0, 1) := by decide +kernel
theorem dX11_play_34 : decode cX11_play 34 = .ok (.getfield 78, 3) := by decide +kernel
theorem dX11_play_37 : decode cX11_play 37 = .ok (.iload_n 1, 1) := by decide +kernel
theorem dX11_play_38 : decode cX11_play 38 = .ok (.iadd, 1) := by decide +kernel
theorem dX11_play_39 : decode cX11_play 39 = .ok (.istore_n 2, 1) := by decide +kernel
theorem dX11_play_40 : decode cX11_play 40 = .ok (.iconst 0, 1) := by decide +kernel
theorem dX11_play_41 : decode cX11_play 41 = .ok (.istore_n 3, 1) := by decide +kernel
theorem dX11_play_42 : decode cX11_play 42 = .ok (.iconst 0, 1) := by decide +kernel
theorem dX11_play_43 : decode cX11_play 43 = .ok (.istore 4, 2) := by decide +kernel
theorem dX11_play_45 : decode cX11_play 45 = .ok (.iload 4, 2) := by decide +kernel
theorem dX11_play_47 : decode cX11_play 47 = .ok (.sipush 3840, 3) := by decide +kernel
theorem dX11_play_50 : decode cX11_play 50 = .ok (.if_icmp .gt 80, 3) := by decide +kernel
theorem dX11_play_53 : decode cX11_play 53 = .ok (.aload_n 0, 1) := by decide +kernel
theorem dX11_play_54 : decode cX11_play 54 = .ok (.getfield 78, 3) := by decide +kernel
theorem dX11_play_57 : decode cX11_play 57 = .ok (.iload_n 2, 1) := by decide +kernel
theorem dX11_play_58 : decode cX11_play 58 = .ok (.if_icmp .ge 72, 3) := by decide +kernel
theorem dX11_play_61 : decode cX11_play 61 = .ok (.aload_n 0, 1) := by decide +kernel
theorem dX11_play_62 : decode cX11_play 62 = .ok (.getfield 78, 3) := by decide +kernel
theorem dX11_play_65 : decode cX11_play 65 = .ok (.sipush 960, 3) := by decide +kernel
theorem dX11_play_68 : decode cX11_play 68 = .ok (.idiv, 1) := by decide +kernel
theorem dX11_play_69 : decode cX11_play 69 = .ok (.istore 5, 2) := by decide +kernel
theorem dX11_play_71 : decode cX11_play 71 = .ok (.iload_n 2, 1) := by decide +kernel
theorem dX11_play_72 : decode cX11_play 72 = .ok (.iload 5, 2) := by decide +kernel
theorem dX11_play_74 : decode cX11_play 74 = .ok (.iconst 1, 1) := by decide +kernel
theorem dX11_play_75 : decode cX11_play 75 = .ok (.iadd, 1) := by decide +kernel
theorem dX11_play_76 : decode cX11_play 76 = .ok (.sipush 960, 3) := by decide +kernel
theorem dX11_play_79 : decode cX11_play 79 = .ok (.imul, 1) := by decide +kernel
theorem dX11_play_80 : decode cX11_play 80 = .ok (.invokestatic 205, 3) := by decide +kernel
theorem dX11_play_83 : decode cX11_play 83 = .ok (.istore 6, 2) := by decide +kernel
theorem dX11_play_85 : decode cX11_play 85 = .ok (.iload_n 3, 1) := by decide +kernel
theorem dX11_play_86 : decode cX11_play 86 = .ok (.aload_n 0, 1) := by decide +kernel
theorem dX11_play_87 : decode cX11_play 87 = .ok (.iload 5, 2) := by decide +kernel
theorem dX11_play_89 : decode cX11_play 89 = .ok (.aload_n 0, 1) := by decide +kernel
theorem dX11_play_90 : decode cX11_play 90 = .ok (.getfield 78, 3) := by decide +kernel
theorem dX11_play_93 : decode cX11_play 93 = .ok (.iload 5, 2) := by decide +kernel
theorem dX11_play_95 : decode cX11_play 95 = .ok (.sipush 960, 3) := by decide +kernel
theorem dX11_play_98 : decode cX11_play 98 = .ok (.imul, 1) := by decide +kernel
theorem dX11_play_99 : decode cX11_play 99 = .ok (.isub, 1) := by decide +kernel
theorem dX11_play_100 : decode cX11_play 100 = .ok (.iload 6, 2) := by decide +kernel
theorem dX11_play_102 : decode cX11_play 102 = .ok (.iload 5, 2) := by decide +kernel
theorem dX11_play_104 : decode cX11_play 104 = .ok (.sipush 960, 3) := by decide +kernel
theorem dX11_play_107 : decode cX11_play 107 = .ok (.imul, 1) := by decide +kernel
theorem dX11_play_108 : decode cX11_play 108 = .ok (.isub, 1) := by decide +kernel
theorem dX11_play_109 : decode cX11_play 109 = .ok (.invokevirtual 210, 3) := by decide +kernel
theorem dX11_play_112 : decode cX11_play 112 = .ok (.iadd, 1) := by decide +kernel
theorem dX11_play_113 : decode cX11_play 113 = .ok (.istore_n 3, 1) := by decide +kernel
theorem dX11_play_114 : decode cX11_play 114 = .ok (.aload_n 0, 1) := by decide +kernel
theorem dX11_play_115 : decode cX11_play 115 = .ok (.iload 6, 2) := by decide +kernel
theorem dX11_play_117 : decode cX11_play 117 = .ok (.putfield 78, 3) := by decide +kernel
theorem dX11_play_120 : decode cX11_play 120 = .ok (.aload_n 0, 1) := by decide +kernel
theorem dX11_play_121 : decode cX11_play 121 = .ok (.invokevirtual 214, 3) := by decide +kernel
theorem dX11_play_124 : decode cX11_play 124 = .ok (.iinc 4 1, 3) := by decide +kernel
theorem dX11_play_127 : decode cX11_play 127 = .ok (.goto (-82), 3) := by decide +kernel
theorem dX11_play_130 : decode cX11_play 130 = .ok (.aload_n 0, 1) := by decide +kernel
theorem dX11_play_131 : decode cX11_play 131 = .ok (.dup, 1) := by decide +kernel
theorem dX11_play_132 : decode cX11_play 132 = .ok (.getfield 82, 3) := by decide +kernel
theorem dX11_play_135 : decode cX11_play 135 = .ok (.iload_n 3, 1) := by decide +kernel
theorem dX11_play_136 : decode cX11_play 136 = .ok (.iadd, 1) := by decide +kernel
theorem dX11_play_137 : decode cX11_play 137 = .ok (.putfield 82, 3) := by decide +kernel
theorem dX11_play_140 : decode cX11_play 140 = .ok (.iload_n 3, 1) := by decide +kernel
theorem dX11_play_141 : decode cX11_play 141 = .ok (.ireturn, 1) := by decide +kernel
theorem dX11_heard_0 : decode cX11_heard 0 = .ok (.iload_n 1, 1) := by decide +kernel
theorem dX11_heard_1 : decode cX11_heard 1 = .ok (.ifCond .lt 14, 3) := by decide +kernel
theorem dX11_heard_4 : decode cX11_heard 4 = .ok (.iload_n 1, 1) := by decide +kernel
theorem dX11_heard_5 : decode cX11_heard 5 = .ok (.aload_n 0, 1) := by decide +kernel
theorem dX11_heard_6 : decode cX11_heard 6 = .ok (.getfield 37, 3) := by decide +kernel
theorem dX11_heard_9 : decode cX11_heard 9 = .ok (.getfield 171, 3) := by decide +kernel
theorem dX11_heard_12 : decode cX11_heard 12 = .ok (.if_icmp .lt 5, 3) := by decide +kernel
theorem dX11_heard_15 : decode cX11_heard 15 = .ok (.iconst (-1), 1) := by decide +kernel
theorem dX11_heard_16 : decode cX11_heard 16 = .ok (.ireturn, 1) := by decide +kernel
theorem dX11_heardLetter_0 : decode cX11_heardLetter 0 = .ok (.aload_n 0, 1) := by decide +kernel
theorem dX11_heardLetter_1 : decode cX11_heardLetter 1 = .ok (.getfield 37, 3) := by decide +kernel
theorem dX11_heardLetter_4 : decode cX11_heardLetter 4 = .ok (.iload_n 1, 1) := by decide +kernel
theorem dX11_heardLetter_5 : decode cX11_heardLetter 5 = .ok (.iload_n 2, 1) := by decide +kernel
theorem dX11_heardLetter_6 : decode cX11_heardLetter 6 = .ok (.invokevirtual 201, 3) := by decide +kernel
theorem dX11_heardLetter_9 : decode cX11_heardLetter 9 = .ok (.ireturn, 1) := by decide +kernel
theorem dX11_jump_0 : decode cX11_jump 0 = .ok (.iload_n 1, 1) := by decide +kernel
theorem dX11_jump_1 : decode cX11_jump 1 = .ok (.ifCond .lt 9, 3) := by decide +kernel
theorem dX11_jump_4 : decode cX11_jump 4 = .ok (.iload_n 1, 1) := by decide +kernel
theorem dX11_jump_5 : decode cX11_jump 5 = .ok (.ldc 166, 2) := by decide +kernel
theorem dX11_jump_7 : decode cX11_jump 7 = .ok (.if_icmp .lt 5, 3) := by decide +kernel
theorem dX11_jump_10 : decode cX11_jump 10 = .ok (.iconst 0, 1) := by decide +kernel
theorem dX11_jump_11 : decode cX11_jump 11 = .ok (.ireturn, 1) := by decide +kernel
theorem dX11_jump_12 : decode cX11_jump 12 = .ok (.aload_n 0, 1) := by decide +kernel
theorem dX11_jump_13 : decode cX11_jump 13 = .ok (.iload_n 1, 1) := by decide +kernel
theorem dX11_jump_14 : decode cX11_jump 14 = .ok (.sipush 960, 3) := by decide +kernel
theorem dX11_jump_17 : decode cX11_jump 17 = .ok (.imul, 1) := by decide +kernel
theorem dX11_jump_18 : decode cX11_jump 18 = .ok (.putfield 78, 3) := by decide +kernel
theorem dX11_jump_21 : decode cX11_jump 21 = .ok (.aload_n 0, 1) := by decide +kernel
theorem dX11_jump_22 : decode cX11_jump 22 = .ok (.invokevirtual 214, 3) := by decide +kernel
theorem dX11_jump_25 : decode cX11_jump 25 = .ok (.iconst 1, 1) := by decide +kernel
theorem dX11_jump_26 : decode cX11_jump 26 = .ok (.ireturn, 1) := by decide +kernel
theorem dX11_mute_0 : decode cX11_mute 0 = .ok (.iload_n 1, 1) := by decide +kernel
theorem dX11_mute_1 : decode cX11_mute 1 = .ok (.invokestatic 135, 3) := by decide +kernel
theorem dX11_mute_4 : decode cX11_mute 4 = .ok (.ifCond .ne 5, 3) := by decide +kernel
theorem dX11_mute_7 : decode cX11_mute 7 = .ok (.iconst 0, 1) := by decide +kernel
theorem dX11_mute_8 : decode cX11_mute 8 = .ok (.ireturn, 1) := by decide +kernel
theorem dX11_mute_9 : decode cX11_mute 9 = .ok (.aload_n 0, 1) := by decide +kernel
theorem dX11_mute_10 : decode cX11_mute 10 = .ok (.getfield 72, 3) := by decide +kernel
theorem dX11_mute_13 : decode cX11_mute 13 = .ok (.iload_n 1, 1) := by decide +kernel
theorem dX11_mute_14 : decode cX11_mute 14 = .ok (.baload, 1) := by decide +kernel
theorem dX11_mute_15 : decode cX11_mute 15 = .ok (.istore_n 3, 1) := by decide +kernel
theorem dX11_mute_16 : decode cX11_mute 16 = .ok (.aload_n 0, 1) := by decide +kernel
theorem dX11_mute_17 : decode cX11_mute 17 = .ok (.getfield 72, 3) := by decide +kernel
theorem dX11_mute_20 : decode cX11_mute 20 = .ok (.iload_n 1, 1) := by decide +kernel
theorem dX11_mute_21 : decode cX11_mute 21 = .ok (.iload_n 2, 1) := by decide +kernel
theorem dX11_mute_22 : decode cX11_mute 22 = .ok (.bastore, 1) := by decide +kernel
theorem dX11_mute_23 : decode cX11_mute 23 = .ok (.iload_n 3, 1) := by decide +kernel
theorem dX11_mute_24 : decode cX11_mute 24 = .ok (.ireturn, 1) := by decide +kernel
theorem dX11_solo_0 : decode cX11_solo 0 = .ok (.iload_n 1, 1) := by decide +kernel
theorem dX11_solo_1 : decode cX11_solo 1 = .ok (.invokestatic 135, 3) := by decide +kernel
theorem dX11_solo_4 : decode cX11_solo 4 = .ok (.ifCond .ne 5, 3) := by decide +kernel
theorem dX11_solo_7 : decode cX11_solo 7 = .ok (.iconst 0, 1) := by decide +kernel
theorem dX11_solo_8 : decode cX11_solo 8 = .ok (.ireturn, 1) := by decide +kernel
theorem dX11_solo_9 : decode cX11_solo 9 = .ok (.aload_n 0, 1) := by decide +kernel
theorem dX11_solo_10 : decode cX11_solo 10 = .ok (.getfield 75, 3) := by decide +kernel
theorem dX11_solo_13 : decode cX11_solo 13 = .ok (.iload_n 1, 1) := by decide +kernel
theorem dX11_solo_14 : decode cX11_solo 14 = .ok (.baload, 1) := by decide +kernel
theorem dX11_solo_15 : decode cX11_solo 15 = .ok (.istore_n 3, 1) := by decide +kernel
theorem dX11_solo_16 : decode cX11_solo 16 = .ok (.aload_n 0, 1) := by decide +kernel
theorem dX11_solo_17 : decode cX11_solo 17 = .ok (.getfield 75, 3) := by decide +kernel
theorem dX11_solo_20 : decode cX11_solo 20 = .ok (.iload_n 1, 1) := by decide +kernel
theorem dX11_solo_21 : decode cX11_solo 21 = .ok (.iload_n 2, 1) := by decide +kernel
theorem dX11_solo_22 : decode cX11_solo 22 = .ok (.bastore, 1) := by decide +kernel
theorem dX11_solo_23 : decode cX11_solo 23 = .ok (.iload_n 3, 1) := by decide +kernel
theorem dX11_solo_24 : decode cX11_solo 24 = .ok (.ireturn, 1) := by decide +kernel
theorem dX11_seed_0 : decode cX11_seed 0 = .ok (.aload_n 0, 1) := by decide +kernel
theorem dX11_seed_1 : decode cX11_seed 1 = .ok (.getfield 26, 3) := by decide +kernel
theorem dX11_seed_4 : decode cX11_seed 4 = .ok (.iload_n 1, 1) := by decide +kernel
theorem dX11_seed_5 : decode cX11_seed 5 = .ok (.putfield 223, 3) := by decide +kernel
theorem dX11_seed_8 : decode cX11_seed 8 = .ok (.return_, 1) := by decide +kernel
theorem dX11_about_0 : decode cX11_about 0 = .ok (.iload_n 1, 1) := by decide +kernel
theorem dX11_about_1 : decode cX11_about 1 = .ok (.tableswitch 92 0 6 #[43, 52, 61, 69, 74, 79, 84], 43) := by decide +kernel
theorem dX11_about_44 : decode cX11_about 44 = .ok (.aload_n 0, 1) := by decide +kernel
theorem dX11_about_45 : decode cX11_about 45 = .ok (.getfield 78, 3) := by decide +kernel
theorem dX11_about_48 : decode cX11_about 48 = .ok (.sipush 960, 3) := by decide +kernel
theorem dX11_about_51 : decode cX11_about 51 = .ok (.idiv, 1) := by decide +kernel
theorem dX11_about_52 : decode cX11_about 52 = .ok (.ireturn, 1) := by decide +kernel
theorem dX11_about_53 : decode cX11_about 53 = .ok (.aload_n 0, 1) := by decide +kernel
theorem dX11_about_54 : decode cX11_about 54 = .ok (.getfield 78, 3) := by decide +kernel
theorem dX11_about_57 : decode cX11_about 57 = .ok (.sipush 960, 3) := by decide +kernel
theorem dX11_about_60 : decode cX11_about 60 = .ok (.irem, 1) := by decide +kernel
theorem dX11_about_61 : decode cX11_about 61 = .ok (.ireturn, 1) := by decide +kernel
theorem dX11_about_62 : decode cX11_about 62 = .ok (.aload_n 0, 1) := by decide +kernel
theorem dX11_about_63 : decode cX11_about 63 = .ok (.getfield 43, 3) := by decide +kernel
theorem dX11_about_66 : decode cX11_about 66 = .ok (.invokevirtual 124, 3) := by decide +kernel
theorem dX11_about_69 : decode cX11_about 69 = .ok (.ireturn, 1) := by decide +kernel
theorem dX11_about_70 : decode cX11_about 70 = .ok (.aload_n 0, 1) := by decide +kernel
theorem dX11_about_71 : decode cX11_about 71 = .ok (.invokevirtual 226, 3) := by decide +kernel
theorem dX11_about_74 : decode cX11_about 74 = .ok (.ireturn, 1) := by decide +kernel
theorem dX11_about_75 : decode cX11_about 75 = .ok (.aload_n 0, 1) := by decide +kernel
theorem dX11_about_76 : decode cX11_about 76 = .ok (.invokevirtual 229, 3) := by decide +kernel
theorem dX11_about_79 : decode cX11_about 79 = .ok (.ireturn, 1) := by decide +kernel
theorem dX11_about_80 : decode cX11_about 80 = .ok (.aload_n 0, 1) := by decide +kernel
theorem dX11_about_81 : decode cX11_about 81 = .ok (.getfield 82, 3) := by decide +kernel
theorem dX11_about_84 : decode cX11_about 84 = .ok (.ireturn, 1) := by decide +kernel
theorem dX11_about_85 : decode cX11_about 85 = .ok (.aload_n 0, 1) := by decide +kernel
theorem dX11_about_86 : decode cX11_about 86 = .ok (.getfield 10, 3) := by decide +kernel
theorem dX11_about_89 : decode cX11_about 89 = .ok (.getfield 98, 3) := by decide +kernel
theorem dX11_about_92 : decode cX11_about 92 = .ok (.ireturn, 1) := by decide +kernel
theorem dX11_about_93 : decode cX11_about 93 = .ok (.iconst (-1), 1) := by decide +kernel
theorem dX11_about_94 : decode cX11_about 94 = .ok (.ireturn, 1) := by decide +kernel
theorem dX11_isTrack_0 : decode cX11_isTrack 0 = .ok (.iload_n 0, 1) := by decide +kernel
theorem dX11_isTrack_1 : decode cX11_isTrack 1 = .ok (.ifCond .lt 13, 3) := by decide +kernel
theorem dX11_isTrack_4 : decode cX11_isTrack 4 = .ok (.iload_n 0, 1) := by decide +kernel
theorem dX11_isTrack_5 : decode cX11_isTrack 5 = .ok (.bipush 8, 2) := by decide +kernel
theorem dX11_isTrack_7 : decode cX11_isTrack 7 = .ok (.if_icmp .ge 7, 3) := by decide +kernel
theorem dX11_isTrack_10 : decode cX11_isTrack 10 = .ok (.iconst 1, 1) := by decide +kernel
theorem dX11_isTrack_11 : decode cX11_isTrack 11 = .ok (.goto 4, 3) := by decide +kernel
theorem dX11_isTrack_14 : decode cX11_isTrack 14 = .ok (.iconst 0, 1) := by decide +kernel
theorem dX11_isTrack_15 : decode cX11_isTrack 15 = .ok (.ireturn, 1) := by decide +kernel
theorem dX11_startReading_0 : decode cX11_startReading 0 = .ok (.aload_n 0, 1) := by decide +kernel
theorem dX11_startReading_1 : decode cX11_startReading 1 = .ok (.getfield 43, 3) := by decide +kernel
theorem dX11_startReading_4 : decode cX11_startReading 4 = .ok (.aload_n 0, 1) := by decide +kernel
theorem dX11_startReading_5 : decode cX11_startReading 5 = .ok (.getfield 47, 3) := by decide +kernel
theorem dX11_startReading_8 : decode cX11_startReading 8 = .ok (.invokestatic 127, 3) := by decide +kernel
theorem dX11_startReading_11 : decode cX11_startReading 11 = .ok (.aload_n 0, 1) := by decide +kernel
theorem dX11_startReading_12 : decode cX11_startReading 12 = .ok (.getfield 10, 3) := by decide +kernel
theorem dX11_startReading_15 : decode cX11_startReading 15 = .ok (.invokevirtual 232, 3) := by decide +kernel
theorem dX11_startReading_18 : decode cX11_startReading 18 = .ok (.aload_n 0, 1) := by decide +kernel
theorem dX11_startReading_19 : decode cX11_startReading 19 = .ok (.getfield 19, 3) := by decide +kernel
theorem dX11_startReading_22 : decode cX11_startReading 22 = .ok (.invokevirtual 235, 3) := by decide +kernel
theorem dX11_startReading_25 : decode cX11_startReading 25 = .ok (.return_, 1) := by decide +kernel
theorem dX11_finishReading_0 : decode cX11_finishReading 0 = .ok (.aload_n 0, 1) := by decide +kernel
theorem dX11_finishReading_1 : decode cX11_finishReading 1 = .ok (.iconst 1, 1) := by decide +kernel
theorem dX11_finishReading_2 : decode cX11_finishReading 2 = .ok (.putfield 85, 3) := by decide +kernel
theorem dX11_finishReading_5 : decode cX11_finishReading 5 = .ok (.aload_n 0, 1) := by decide +kernel
theorem dX11_finishReading_6 : decode cX11_finishReading 6 = .ok (.iload_n 1, 1) := by decide +kernel
theorem dX11_finishReading_7 : decode cX11_finishReading 7 = .ok (.putfield 89, 3) := by decide +kernel
theorem dX11_finishReading_10 : decode cX11_finishReading 10 = .ok (.aload_n 0, 1) := by decide +kernel
theorem dX11_finishReading_11 : decode cX11_finishReading 11 = .ok (.iconst (-1), 1) := by decide +kernel
theorem dX11_finishReading_12 : decode cX11_finishReading 12 = .ok (.putfield 92, 3) := by decide +kernel
theorem dX11_finishReading_15 : decode cX11_finishReading 15 = .ok (.aload_n 0, 1) := by decide +kernel
theorem dX11_finishReading_16 : decode cX11_finishReading 16 = .ok (.getfield 10, 3) := by decide +kernel
theorem dX11_finishReading_19 : decode cX11_finishReading 19 = .ok (.getfield 120, 3) := by decide +kernel
theorem dX11_finishReading_22 : decode cX11_finishReading 22 = .ok (.ifCond .eq 17, 3) := by decide +kernel
theorem dX11_finishReading_25 : decode cX11_finishReading 25 = .ok (.aload_n 0, 1) := by decide +kernel
theorem dX11_finishReading_26 : decode cX11_finishReading 26 = .ok (.aload_n 0, 1) := by decide +kernel
theorem dX11_finishReading_27 : decode cX11_finishReading 27 = .ok (.getfield 10, 3) := by decide +kernel
theorem dX11_finishReading_30 : decode cX11_finishReading 30 = .ok (.getfield 236, 3) := by decide +kernel
theorem dX11_finishReading_33 : decode cX11_finishReading 33 = .ok (.putfield 92, 3) := by decide +kernel
theorem dX11_finishReading_36 : decode cX11_finishReading 36 = .ok (.goto 24, 3) := by decide +kernel
theorem dX11_finishReading_39 : decode cX11_finishReading 39 = .ok (.aload_n 0, 1) := by decide +kernel
theorem dX11_finishReading_40 : decode cX11_finishReading 40 = .ok (.getfield 19, 3) := by decide +kernel
theorem dX11_finishReading_43 : decode cX11_finishReading 43 = .ok (.getfield 123, 3) := by decide +kernel
theorem dX11_finishReading_46 : decode cX11_finishReading 46 = .ok (.ifCond .eq 14, 3) := by decide +kernel
theorem dX11_finishReading_60 : decode cX11_finishReading 60 = .ok (.aload_n 0, 1) := by decide +kernel
theorem dX11_finishReading_61 : decode cX11_finishReading 61 = .ok (.aload_n 0, 1) := by decide +kernel
theorem dX11_finishReading_62 : decode cX11_finishReading 62 = .ok (.getfield 19, 3) := by decide +kernel
theorem dX11_finishReading_65 : decode cX11_finishReading 65 = .ok (.getfield 240, 3) := by decide +kernel
theorem dX11_finishReading_68 : decode cX11_finishReading 68 = .ok (.putfield 95, 3) := by decide +kernel
theorem dX11_finishReading_71 : decode cX11_finishReading 71 = .ok (.aload_n 0, 1) := by decide +kernel
theorem dX11_finishReading_72 : decode cX11_finishReading 72 = .ok (.getfield 10, 3) := by decide +kernel
theorem dX11_finishReading_75 : decode cX11_finishReading 75 = .ok (.iconst 0, 1) := by decide +kernel
theorem dX11_finishReading_76 : decode cX11_finishReading 76 = .ok (.putfield 98, 3) := by decide +kernel
theorem dX11_finishReading_79 : decode cX11_finishReading 79 = .ok (.iload_n 1, 1) := by decide +kernel
theorem dX11_finishReading_80 : decode cX11_finishReading 80 = .ok (.ireturn, 1) := by decide +kernel
theorem dX11_copyDefinitions_0 : decode cX11_copyDefinitions 0 = .ok (.aload_n 1, 1) := by decide +kernel
theorem dX11_copyDefinitions_1 : decode cX11_copyDefinitions 1 = .ok (.invokevirtual 267, 3) := by decide +kernel
theorem dX11_copyDefinitions_4 : decode cX11_copyDefinitions 4 = .ok (.iconst 0, 1) := by decide +kernel
theorem dX11_copyDefinitions_5 : decode cX11_copyDefinitions 5 = .ok (.istore_n 2, 1) := by decide +kernel
theorem dX11_copyDefinitions_6 : decode cX11_copyDefinitions 6 = .ok (.iload_n 2, 1) := by decide +kernel
theorem dX11_copyDefinitions_7 : decode cX11_copyDefinitions 7 = .ok (.aload_n 0, 1) := by decide +kernel
theorem dX11_copyDefinitions_8 : decode cX11_copyDefinitions 8 = .ok (.invokevirtual 124, 3) := by decide +kernel
theorem dX11_copyDefinitions_11 : decode cX11_copyDefinitions 11 = .ok (.if_icmp .ge 22, 3) := by decide +kernel
theorem dX11_copyDefinitions_33 : decode cX11_copyDefinitions 33 = .ok (.return_, 1) := by decide +kernel
theorem dX11_assign_0 : decode cX11_assign 0 = .ok (.aload_n 0, 1) := by decide +kernel
theorem dX11_assign_1 : decode cX11_assign 1 = .ok (.getfield 65, 3) := by decide +kernel
theorem dX11_assign_4 : decode cX11_assign 4 = .ok (.iload_n 1, 1) := by decide +kernel
theorem dX11_assign_5 : decode cX11_assign 5 = .ok (.aload_n 2, 1) := by decide +kernel
theorem dX11_assign_6 : decode cX11_assign 6 = .ok (.aastore, 1) := by decide +kernel
theorem dX11_assign_7 : decode cX11_assign 7 = .ok (.aload_n 0, 1) := by decide +kernel
theorem dX11_assign_8 : decode cX11_assign 8 = .ok (.getfield 68, 3) := by decide +kernel
theorem dX11_assign_11 : decode cX11_assign 11 = .ok (.iload_n 1, 1) := by decide +kernel
theorem dX11_assign_12 : decode cX11_assign 12 = .ok (.iconst 1, 1) := by decide +kernel
theorem dX11_assign_13 : decode cX11_assign 13 = .ok (.bastore, 1) := by decide +kernel
theorem dX11_assign_14 : decode cX11_assign 14 = .ok (.aload_n 0, 1) := by decide +kernel
theorem dX11_assign_15 : decode cX11_assign 15 = .ok (.invokevirtual 214, 3) := by decide +kernel
theorem dX11_assign_18 : decode cX11_assign 18 = .ok (.return_, 1) := by decide +kernel
theorem dX11_settle_0 : decode cX11_settle 0 = .ok (.aload_n 0, 1) := by decide +kernel
theorem dX11_settle_1 : decode cX11_settle 1 = .ok (.getfield 78, 3) := by decide +kernel
theorem dX11_settle_4 : decode cX11_settle 4 = .ok (.sipush 960, 3) := by decide +kernel
theorem dX11_settle_7 : decode cX11_settle 7 = .ok (.irem, 1) := by decide +kernel
theorem dX11_settle_8 : decode cX11_settle 8 = .ok (.ifCond .eq 4, 3) := by decide +kernel
theorem dX11_settle_11 : decode cX11_settle 11 = .ok (.return_, 1) := by decide +kernel
theorem dX11_settle_12 : decode cX11_settle 12 = .ok (.iconst 0, 1) := by decide +kernel
theorem dX11_settle_13 : decode cX11_settle 13 = .ok (.istore_n 1, 1) := by decide +kernel
theorem dX11_settle_14 : decode cX11_settle 14 = .ok (.iload_n 1, 1) := by decide +kernel
theorem dX11_settle_15 : decode cX11_settle 15 = .ok (.bipush 8, 2) := by decide +kernel
theorem dX11_settle_17 : decode cX11_settle 17 = .ok (.if_icmp .ge 44, 3) := by decide +kernel
theorem dX11_settle_20 : decode cX11_settle 20 = .ok (.aload_n 0, 1) := by decide +kernel
theorem dX11_settle_21 : decode cX11_settle 21 = .ok (.getfield 68, 3) := by decide +kernel
theorem dX11_settle_24 : decode cX11_settle 24 = .ok (.iload_n 1, 1) := by decide +kernel
theorem dX11_settle_25 : decode cX11_settle 25 = .ok (.baload, 1) := by decide +kernel
theorem dX11_settle_26 : decode cX11_settle 26 = .ok (.ifCond .eq 29, 3) := by decide +kernel
theorem dX11_settle_29 : decode cX11_settle 29 = .ok (.aload_n 0, 1) := by decide +kernel
theorem dX11_settle_30 : decode cX11_settle 30 = .ok (.getfield 61, 3) := by decide +kernel
theorem dX11_settle_33 : decode cX11_settle 33 = .ok (.iload_n 1, 1) := by decide +kernel
theorem dX11_settle_34 : decode cX11_settle 34 = .ok (.aload_n 0, 1) := by decide +kernel
theorem dX11_settle_35 : decode cX11_settle 35 = .ok (.getfield 65, 3) := by decide +kernel
theorem dX11_settle_38 : decode cX11_settle 38 = .ok (.iload_n 1, 1) := by decide +kernel
theorem dX11_settle_39 : decode cX11_settle 39 = .ok (.aaload, 1) := by decide +kernel
theorem dX11_settle_40 : decode cX11_settle 40 = .ok (.aastore, 1) := by decide +kernel
theorem dX11_settle_41 : decode cX11_settle 41 = .ok (.aload_n 0, 1) := by decide +kernel
theorem dX11_settle_42 : decode cX11_settle 42 = .ok (.getfield 65, 3) := by decide +kernel
theorem dX11_settle_45 : decode cX11_settle 45 = .ok (.iload_n 1, 1) := by decide +kernel
theorem dX11_settle_46 : decode cX11_settle 46 = .ok (.aconst_null, 1) := by decide +kernel
theorem dX11_settle_47 : decode cX11_settle 47 = .ok (.aastore, 1) := by decide +kernel
theorem dX11_settle_48 : decode cX11_settle 48 = .ok (.aload_n 0, 1) := by decide +kernel
theorem dX11_settle_49 : decode cX11_settle 49 = .ok (.getfield 68, 3) := by decide +kernel
theorem dX11_settle_52 : decode cX11_settle 52 = .ok (.iload_n 1, 1) := by decide +kernel
theorem dX11_settle_53 : decode cX11_settle 53 = .ok (.iconst 0, 1) := by decide +kernel
theorem dX11_settle_54 : decode cX11_settle 54 = .ok (.bastore, 1) := by decide +kernel
theorem dX11_settle_55 : decode cX11_settle 55 = .ok (.iinc 1 1, 3) := by decide +kernel
theorem dX11_settle_58 : decode cX11_settle 58 = .ok (.goto (-44), 3) := by decide +kernel
theorem dX11_settle_61 : decode cX11_settle 61 = .ok (.return_, 1) := by decide +kernel
theorem dX11_hearCycle_0 : decode cX11_hearCycle 0 = .ok (.aload_n 0, 1) := by decide +kernel
theorem dX11_hearCycle_1 : decode cX11_hearCycle 1 = .ok (.getfield 37, 3) := by decide +kernel
theorem dX11_hearCycle_4 : decode cX11_hearCycle 4 = .ok (.getfield 171, 3) := by decide +kernel
theorem dX11_hearCycle_7 : decode cX11_hearCycle 7 = .ok (.istore 4, 2) := by decide +kernel
theorem dX11_hearCycle_9 : decode cX11_hearCycle 9 = .ok (.aload_n 0, 1) := by decide +kernel
theorem dX11_hearCycle_10 : decode cX11_hearCycle 10 = .ok (.invokevirtual 270, 3) := by decide +kernel
theorem dX11_hearCycle_13 : decode cX11_hearCycle 13 = .ok (.istore 5, 2) := by decide +kernel
theorem dX11_hearCycle_15 : decode cX11_hearCycle 15 = .ok (.iconst 0, 1) := by decide +kernel
theorem dX11_hearCycle_16 : decode cX11_hearCycle 16 = .ok (.istore 6, 2) := by decide +kernel
theorem dX11_hearCycle_18 : decode cX11_hearCycle 18 = .ok (.iconst 0, 1) := by decide +kernel
theorem dX11_hearCycle_19 : decode cX11_hearCycle 19 = .ok (.istore 7, 2) := by decide +kernel
theorem dX11_hearCycle_21 : decode cX11_hearCycle 21 = .ok (.iload 7, 2) := by decide +kernel
theorem dX11_hearCycle_23 : decode cX11_hearCycle 23 = .ok (.bipush 8, 2) := by decide +kernel
theorem dX11_hearCycle_25 : decode cX11_hearCycle 25 = .ok (.if_icmp .ge 135, 3) := by decide +kernel
theorem dX11_hearCycle_28 : decode cX11_hearCycle 28 = .ok (.aload_n 0, 1) := by decide +kernel
theorem dX11_hearCycle_29 : decode cX11_hearCycle 29 = .ok (.getfield 61, 3) := by decide +kernel
theorem dX11_hearCycle_32 : decode cX11_hearCycle 32 = .ok (.iload 7, 2) := by decide +kernel
theorem dX11_hearCycle_34 : decode cX11_hearCycle 34 = .ok (.aaload, 1) := by decide +kernel
theorem dX11_hearCycle_35 : decode cX11_hearCycle 35 = .ok (.astore 8, 2) := by decide +kernel
theorem dX11_hearCycle_37 : decode cX11_hearCycle 37 = .ok (.aload 8, 2) := by decide +kernel
theorem dX11_hearCycle_39 : decode cX11_hearCycle 39 = .ok (.ifnull 115, 3) := by decide +kernel
theorem dX11_hearCycle_154 : decode cX11_hearCycle 154 = .ok (.iinc 7 1, 3) := by decide +kernel
theorem dX11_hearCycle_157 : decode cX11_hearCycle 157 = .ok (.goto (-136), 3) := by decide +kernel
theorem dX11_hearCycle_160 : decode cX11_hearCycle 160 = .ok (.iload 6, 2) := by decide +kernel
theorem dX11_hearCycle_162 : decode cX11_hearCycle 162 = .ok (.ireturn, 1) := by decide +kernel
theorem dX11_anyAlone_0 : decode cX11_anyAlone 0 = .ok (.iconst 0, 1) := by decide +kernel
theorem dX11_anyAlone_1 : decode cX11_anyAlone 1 = .ok (.istore_n 1, 1) := by decide +kernel
theorem dX11_anyAlone_2 : decode cX11_anyAlone 2 = .ok (.iload_n 1, 1) := by decide +kernel
theorem dX11_anyAlone_3 : decode cX11_anyAlone 3 = .ok (.bipush 8, 2) := by decide +kernel
theorem dX11_anyAlone_5 : decode cX11_anyAlone 5 = .ok (.if_icmp .ge 20, 3) := by decide +kernel
theorem dX11_anyAlone_8 : decode cX11_anyAlone 8 = .ok (.aload_n 0, 1) := by decide +kernel
theorem dX11_anyAlone_9 : decode cX11_anyAlone 9 = .ok (.getfield 75, 3) := by decide +kernel
theorem dX11_anyAlone_12 : decode cX11_anyAlone 12 = .ok (.iload_n 1, 1) := by decide +kernel
theorem dX11_anyAlone_13 : decode cX11_anyAlone 13 = .ok (.baload, 1) := by decide +kernel
theorem dX11_anyAlone_14 : decode cX11_anyAlone 14 = .ok (.ifCond .eq 5, 3) := by decide +kernel
theorem dX11_anyAlone_19 : decode cX11_anyAlone 19 = .ok (.iinc 1 1, 3) := by decide +kernel
theorem dX11_anyAlone_22 : decode cX11_anyAlone 22 = .ok (.goto (-20), 3) := by decide +kernel
theorem dX11_anyAlone_25 : decode cX11_anyAlone 25 = .ok (.iconst 0, 1) := by decide +kernel
theorem dX11_anyAlone_26 : decode cX11_anyAlone 26 = .ok (.ireturn, 1) := by decide +kernel
theorem dX11_tracksWithPattern_0 : decode cX11_tracksWithPattern 0 = .ok (.iconst 0, 1) := by decide +kernel
theorem dX11_tracksWithPattern_1 : decode cX11_tracksWithPattern 1 = .ok (.istore_n 1, 1) := by decide +kernel
theorem dX11_tracksWithPattern_2 : decode cX11_tracksWithPattern 2 = .ok (.iconst 0, 1) := by decide +kernel
theorem dX11_tracksWithPattern_3 : decode cX11_tracksWithPattern 3 = .ok (.istore_n 2, 1) := by decide +kernel
theorem dX11_tracksWithPattern_4 : decode cX11_tracksWithPattern 4 = .ok (.iload_n 2, 1) := by decide +kernel
theorem dX11_tracksWithPattern_5 : decode cX11_tracksWithPattern 5 = .ok (.bipush 8, 2) := by decide +kernel
theorem dX11_tracksWithPattern_7 : decode cX11_tracksWithPattern 7 = .ok (.if_icmp .ge 26, 3) := by decide +kernel
theorem dX11_tracksWithPattern_10 : decode cX11_tracksWithPattern 10 = .ok (.iload_n 1, 1) := by decide +kernel
theorem dX11_tracksWithPattern_11 : decode cX11_tracksWithPattern 11 = .ok (.aload_n 0, 1) := by decide +kernel
theorem dX11_tracksWithPattern_12 : decode cX11_tracksWithPattern 12 = .ok (.getfield 61, 3) := by decide +kernel
theorem dX11_tracksWithPattern_15 : decode cX11_tracksWithPattern 15 = .ok (.iload_n 2, 1) := by decide +kernel
theorem dX11_tracksWithPattern_16 : decode cX11_tracksWithPattern 16 = .ok (.aaload, 1) := by decide +kernel
theorem dX11_tracksWithPattern_17 : decode cX11_tracksWithPattern 17 = .ok (.ifnull 7, 3) := by decide +kernel
theorem dX11_tracksWithPattern_24 : decode cX11_tracksWithPattern 24 = .ok (.iconst 0, 1) := by decide +kernel
theorem dX11_tracksWithPattern_25 : decode cX11_tracksWithPattern 25 = .ok (.iadd, 1) := by decide +kernel
theorem dX11_tracksWithPattern_26 : decode cX11_tracksWithPattern 26 = .ok (.istore_n 1, 1) := by decide +kernel
theorem dX11_tracksWithPattern_27 : decode cX11_tracksWithPattern 27 = .ok (.iinc 2 1, 3) := by decide +kernel
theorem dX11_tracksWithPattern_30 : decode cX11_tracksWithPattern 30 = .ok (.goto (-26), 3) := by decide +kernel
theorem dX11_tracksWithPattern_33 : decode cX11_tracksWithPattern 33 = .ok (.iload_n 1, 1) := by decide +kernel
theorem dX11_tracksWithPattern_34 : decode cX11_tracksWithPattern 34 = .ok (.ireturn, 1) := by decide +kernel
theorem dX11_tracksWaiting_0 : decode cX11_tracksWaiting 0 = .ok (.iconst 0, 1) := by decide +kernel
theorem dX11_tracksWaiting_1 : decode cX11_tracksWaiting 1 = .ok (.istore_n 1, 1) := by decide +kernel
theorem dX11_tracksWaiting_2 : decode cX11_tracksWaiting 2 = .ok (.iconst 0, 1) := by decide +kernel
theorem dX11_tracksWaiting_3 : decode cX11_tracksWaiting 3 = .ok (.istore_n 2, 1) := by decide +kernel
theorem dX11_tracksWaiting_4 : decode cX11_tracksWaiting 4 = .ok (.iload_n 2, 1) := by decide +kernel
theorem dX11_tracksWaiting_5 : decode cX11_tracksWaiting 5 = .ok (.bipush 8, 2) := by decide +kernel
theorem dX11_tracksWaiting_7 : decode cX11_tracksWaiting 7 = .ok (.if_icmp .ge 26, 3) := by decide +kernel
theorem dX11_tracksWaiting_10 : decode cX11_tracksWaiting 10 = .ok (.iload_n 1, 1) := by decide +kernel
theorem dX11_tracksWaiting_11 : decode cX11_tracksWaiting 11 = .ok (.aload_n 0, 1) := by decide +kernel
theorem dX11_tracksWaiting_12 : decode cX11_tracksWaiting 12 = .ok (.getfield 68, 3) := by decide +kernel
theorem dX11_tracksWaiting_15 : decode cX11_tracksWaiting 15 = .ok (.iload_n 2, 1) := by decide +kernel
theorem dX11_tracksWaiting_16 : decode cX11_tracksWaiting 16 = .ok (.baload, 1) := by decide +kernel
theorem dX11_tracksWaiting_17 : decode cX11_tracksWaiting 17 = .ok (.ifCond .eq 7, 3) := by decide +kernel
theorem dX11_tracksWaiting_24 : decode cX11_tracksWaiting 24 = .ok (.iconst 0, 1) := by decide +kernel
theorem dX11_tracksWaiting_25 : decode cX11_tracksWaiting 25 = .ok (.iadd, 1) := by decide +kernel
theorem dX11_tracksWaiting_26 : decode cX11_tracksWaiting 26 = .ok (.istore_n 1, 1) := by decide +kernel
theorem dX11_tracksWaiting_27 : decode cX11_tracksWaiting 27 = .ok (.iinc 2 1, 3) := by decide +kernel
theorem dX11_tracksWaiting_30 : decode cX11_tracksWaiting 30 = .ok (.goto (-26), 3) := by decide +kernel
theorem dX11_tracksWaiting_33 : decode cX11_tracksWaiting 33 = .ok (.iload_n 1, 1) := by decide +kernel
theorem dX11_tracksWaiting_34 : decode cX11_tracksWaiting 34 = .ok (.ireturn, 1) := by decide +kernel
theorem dJx4a65c_size_8abf5_0 : decode cJx4a65c_size_8abf5 0 = .ok (.aload_n 0, 1) := by decide +kernel
theorem dJx4a65c_size_8abf5_1 : decode cJx4a65c_size_8abf5 1 = .ok (.getfield 48, 3) := by decide +kernel
theorem dJx4a65c_size_8abf5_4 : decode cJx4a65c_size_8abf5 4 = .ok (.ireturn, 1) := by decide +kernel
theorem dJx4a65c_clear_da8c8_0 : decode cJx4a65c_clear_da8c8 0 = .ok (.aload_n 0, 1) := by decide +kernel
theorem dJx4a65c_clear_da8c8_1 : decode cJx4a65c_clear_da8c8 1 = .ok (.dup, 1) := by decide +kernel
theorem dJx4a65c_clear_da8c8_2 : decode cJx4a65c_clear_da8c8 2 = .ok (.getfield 63, 3) := by decide +kernel
theorem dJx4a65c_clear_da8c8_5 : decode cJx4a65c_clear_da8c8 5 = .ok (.iconst 1, 1) := by decide +kernel
theorem dJx4a65c_clear_da8c8_6 : decode cJx4a65c_clear_da8c8 6 = .ok (.iadd, 1) := by decide +kernel
theorem dJx4a65c_clear_da8c8_7 : decode cJx4a65c_clear_da8c8 7 = .ok (.putfield 63, 3) := by decide +kernel
theorem dJx4a65c_clear_da8c8_10 : decode cJx4a65c_clear_da8c8 10 = .ok (.aload_n 0, 1) := by decide +kernel
theorem dJx4a65c_clear_da8c8_11 : decode cJx4a65c_clear_da8c8 11 = .ok (.getfield 9, 3) := by decide +kernel
theorem dJx4a65c_clear_da8c8_14 : decode cJx4a65c_clear_da8c8 14 = .ok (.astore_n 1, 1) := by decide +kernel
theorem dJx4a65c_clear_da8c8_15 : decode cJx4a65c_clear_da8c8 15 = .ok (.aload_n 0, 1) := by decide +kernel
theorem dJx4a65c_clear_da8c8_16 : decode cJx4a65c_clear_da8c8 16 = .ok (.getfield 48, 3) := by decide +kernel
theorem dJx4a65c_clear_da8c8_19 : decode cJx4a65c_clear_da8c8 19 = .ok (.istore_n 2, 1) := by decide +kernel
theorem dJx4a65c_clear_da8c8_20 : decode cJx4a65c_clear_da8c8 20 = .ok (.aload_n 0, 1) := by decide +kernel
theorem dJx4a65c_clear_da8c8_21 : decode cJx4a65c_clear_da8c8 21 = .ok (.iconst 0, 1) := by decide +kernel
theorem dJx4a65c_clear_da8c8_22 : decode cJx4a65c_clear_da8c8 22 = .ok (.dup_x1, 1) := by decide +kernel
theorem dJx4a65c_clear_da8c8_23 : decode cJx4a65c_clear_da8c8 23 = .ok (.putfield 48, 3) := by decide +kernel
theorem dJx4a65c_clear_da8c8_26 : decode cJx4a65c_clear_da8c8 26 = .ok (.istore_n 3, 1) := by decide +kernel
theorem dJx4a65c_clear_da8c8_27 : decode cJx4a65c_clear_da8c8 27 = .ok (.iload_n 3, 1) := by decide +kernel
theorem dJx4a65c_clear_da8c8_28 : decode cJx4a65c_clear_da8c8 28 = .ok (.iload_n 2, 1) := by decide +kernel
theorem dJx4a65c_clear_da8c8_29 : decode cJx4a65c_clear_da8c8 29 = .ok (.if_icmp .ge 13, 3) := by decide +kernel
theorem dJx4a65c_clear_da8c8_42 : decode cJx4a65c_clear_da8c8 42 = .ok (.return_, 1) := by decide +kernel
