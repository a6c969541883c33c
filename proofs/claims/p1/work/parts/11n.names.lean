abbrev cX12_fail : ByteArray := prog_14_method_3_code
def yX12_fail : MethodName := ⟨RX12, "fail", "(II)V"⟩
abbrev cX12_byteAt : ByteArray := prog_14_method_4_code
def yX12_byteAt : MethodName := ⟨RX12, "byteAt", "(I)I"⟩
abbrev cX12_look : ByteArray := prog_14_method_9_code
def yX12_look : MethodName := ⟨RX12, "look", "(I)V"⟩
abbrev cX12_isSign : ByteArray := prog_14_method_14_code
def yX12_isSign : MethodName := ⟨RX12, "isSign", "(I)Z"⟩
abbrev cX12_begin : ByteArray := prog_14_method_19_code
def yX12_begin : MethodName := ⟨RX12, "begin", "(III)V"⟩
abbrev cX12_readExp : ByteArray := prog_14_method_21_code
def yX12_readExp : MethodName := ⟨RX12, "readExp", "()V"⟩
abbrev cX12_readRow : ByteArray := prog_14_method_22_code
def yX12_readRow : MethodName := ⟨RX12, "readRow", "(IIII)V"⟩
abbrev cX12_readSum : ByteArray := prog_14_method_23_code
def yX12_readSum : MethodName := ⟨RX12, "readSum", "(I)V"⟩
abbrev cX12_readApp : ByteArray := prog_14_method_24_code
def yX12_readApp : MethodName := ⟨RX12, "readApp", "(I)V"⟩
abbrev cX12_readArg : ByteArray := prog_14_method_27_code
def yX12_readArg : MethodName := ⟨RX12, "readArg", "(I)V"⟩
abbrev cX12_feed : ByteArray := prog_14_method_114_code
def yX12_feed : MethodName := ⟨RX12, "feed", "(IIIII)Z"⟩
abbrev cX12_end : ByteArray := prog_14_method_115_code
def yX12_end : MethodName := ⟨RX12, "end", "(I)Z"⟩
abbrev cX12_begins : ByteArray := prog_14_method_116_code
def yX12_begins : MethodName := ⟨RX12, "begins", "()V"⟩
abbrev cX12_over : ByteArray := prog_14_method_117_code
def yX12_over : MethodName := ⟨RX12, "over", "()I"⟩
abbrev cX12_read : ByteArray := prog_14_method_120_code
def yX12_read : MethodName := ⟨RX12, "read", "()I"⟩
abbrev cX12_hang : ByteArray := prog_14_method_121_code
def yX12_hang : MethodName := ⟨RX12, "hang", "(I)I"⟩
abbrev cX12_becomes : ByteArray := prog_14_method_122_code
def yX12_becomes : MethodName := ⟨RX12, "becomes", "(II)V"⟩
abbrev cX12_hush : ByteArray := prog_14_method_123_code
def yX12_hush : MethodName := ⟨RX12, "hush", "(I)Z"⟩
abbrev cX12_told : ByteArray := prog_14_method_124_code
def yX12_told : MethodName := ⟨RX12, "told", "(I)I"⟩
abbrev cX12_isTrack : ByteArray := prog_14_method_125_code
def yX12_isTrack : MethodName := ⟨RX12, "isTrack", "(I)Z"⟩
abbrev cX12_bound : ByteArray := prog_14_method_126_code
def yX12_bound : MethodName := ⟨RX12, "bound", "(II)I"⟩
abbrev cX12_ask : ByteArray := prog_14_method_127_code
def yX12_ask : MethodName := ⟨RX12, "ask", "(II)I"⟩
abbrev cX12_event : ByteArray := prog_14_method_131_code
def yX12_event : MethodName := ⟨RX12, "event", "(II)I"⟩
abbrev cX12_letter : ByteArray := prog_14_method_132_code
def yX12_letter : MethodName := ⟨RX12, "letter", "(II)I"⟩
abbrev cX12_swaps : ByteArray := prog_14_method_134_code
def yX12_swaps : MethodName := ⟨RX12, "swaps", "()V"⟩
abbrev cX12_beat : ByteArray := prog_14_method_135_code
def yX12_beat : MethodName := ⟨RX12, "beat", "(II)I"⟩
abbrev cX12_arrange : ByteArray := prog_14_method_136_code
def yX12_arrange : MethodName := ⟨RX12, "arrange", "()V"⟩
abbrev cX12_play : ByteArray := prog_14_method_138_code
def yX12_play : MethodName := ⟨RX12, "play", "(I)I"⟩
abbrev cX12_heard : ByteArray := prog_14_method_139_code
def yX12_heard : MethodName := ⟨RX12, "heard", "(II)I"⟩
abbrev cX12_heardLetter : ByteArray := prog_14_method_140_code
def yX12_heardLetter : MethodName := ⟨RX12, "heardLetter", "(II)I"⟩
abbrev cX12_jump : ByteArray := prog_14_method_141_code
def yX12_jump : MethodName := ⟨RX12, "jump", "(I)Z"⟩
abbrev cX12_mute : ByteArray := prog_14_method_142_code
def yX12_mute : MethodName := ⟨RX12, "mute", "(IZ)Z"⟩
abbrev cX12_solo : ByteArray := prog_14_method_143_code
def yX12_solo : MethodName := ⟨RX12, "solo", "(IZ)Z"⟩
abbrev cX12_seed : ByteArray := prog_14_method_144_code
def yX12_seed : MethodName := ⟨RX12, "seed", "(I)V"⟩
abbrev cX12_about : ByteArray := prog_14_method_145_code
def yX12_about : MethodName := ⟨RX12, "about", "(I)I"⟩
def wsX12_isTrack : List Cond := .code yX12_isTrack cX12_isTrack 2 (some .boolean) :: ([])
theorem dX12_fail_0 : decode cX12_fail 0 = .ok (.aload_n 0, 1) := by decide +kernel
theorem dX12_fail_1 : decode cX12_fail 1 = .ok (.getfield 41, 3) := by decide +kernel
theorem dX12_fail_4 : decode cX12_fail 4 = .ok (.ifCond .eq 4, 3) := by decide +kernel
theorem dX12_fail_8 : decode cX12_fail 8 = .ok (.aload_n 0, 1) := by decide +kernel
theorem dX12_fail_9 : decode cX12_fail 9 = .ok (.iload_n 1, 1) := by decide +kernel
theorem dX12_fail_10 : decode cX12_fail 10 = .ok (.putfield 41, 3) := by decide +kernel
theorem dX12_fail_13 : decode cX12_fail 13 = .ok (.aload_n 0, 1) := by decide +kernel
theorem dX12_fail_14 : decode cX12_fail 14 = .ok (.iload_n 2, 1) := by decide +kernel
theorem dX12_fail_15 : decode cX12_fail 15 = .ok (.putfield 44, 3) := by decide +kernel
theorem dX12_fail_18 : decode cX12_fail 18 = .ok (.return_, 1) := by decide +kernel
theorem dX12_byteAt_0 : decode cX12_byteAt 0 = .ok (.iload_n 1, 1) := by decide +kernel
theorem dX12_byteAt_1 : decode cX12_byteAt 1 = .ok (.ifCond .lt 20, 3) := by decide +kernel
theorem dX12_byteAt_4 : decode cX12_byteAt 4 = .ok (.iload_n 1, 1) := by decide +kernel
theorem dX12_byteAt_5 : decode cX12_byteAt 5 = .ok (.aload_n 0, 1) := by decide +kernel
theorem dX12_byteAt_6 : decode cX12_byteAt 6 = .ok (.getfield 47, 3) := by decide +kernel
theorem dX12_byteAt_9 : decode cX12_byteAt 9 = .ok (.if_icmp .ge 12, 3) := by decide +kernel
theorem dX12_byteAt_21 : decode cX12_byteAt 21 = .ok (.iconst 0, 1) := by decide +kernel
theorem dX12_byteAt_22 : decode cX12_byteAt 22 = .ok (.ireturn, 1) := by decide +kernel
theorem dX12_look_0 : decode cX12_look 0 = .ok (.iload_n 1, 1) := by decide +kernel
theorem dX12_look_1 : decode cX12_look 1 = .ok (.istore_n 2, 1) := by decide +kernel
theorem dX12_look_2 : decode cX12_look 2 = .ok (.iload_n 2, 1) := by decide +kernel
theorem dX12_look_3 : decode cX12_look 3 = .ok (.aload_n 0, 1) := by decide +kernel
theorem dX12_look_4 : decode cX12_look 4 = .ok (.getfield 47, 3) := by decide +kernel
theorem dX12_look_7 : decode cX12_look 7 = .ok (.if_icmp .ge 20, 3) := by decide +kernel
theorem dX12_look_27 : decode cX12_look 27 = .ok (.aload_n 0, 1) := by decide +kernel
theorem dX12_look_28 : decode cX12_look 28 = .ok (.iload_n 2, 1) := by decide +kernel
theorem dX12_look_29 : decode cX12_look 29 = .ok (.putfield 58, 3) := by decide +kernel
theorem dX12_look_32 : decode cX12_look 32 = .ok (.aload_n 0, 1) := by decide +kernel
theorem dX12_look_33 : decode cX12_look 33 = .ok (.iload_n 2, 1) := by decide +kernel
theorem dX12_look_34 : decode cX12_look 34 = .ok (.iconst 1, 1) := by decide +kernel
theorem dX12_look_35 : decode cX12_look 35 = .ok (.iadd, 1) := by decide +kernel
theorem dX12_look_36 : decode cX12_look 36 = .ok (.putfield 61, 3) := by decide +kernel
theorem dX12_look_39 : decode cX12_look 39 = .ok (.aload_n 0, 1) := by decide +kernel
theorem dX12_look_40 : decode cX12_look 40 = .ok (.iload_n 2, 1) := by decide +kernel
theorem dX12_look_41 : decode cX12_look 41 = .ok (.invokevirtual 64, 3) := by decide +kernel
theorem dX12_look_44 : decode cX12_look 44 = .ok (.istore_n 3, 1) := by decide +kernel
theorem dX12_look_45 : decode cX12_look 45 = .ok (.iload_n 2, 1) := by decide +kernel
theorem dX12_look_46 : decode cX12_look 46 = .ok (.aload_n 0, 1) := by decide +kernel
theorem dX12_look_47 : decode cX12_look 47 = .ok (.getfield 47, 3) := by decide +kernel
theorem dX12_look_50 : decode cX12_look 50 = .ok (.if_icmp .lt 19, 3) := by decide +kernel
theorem dX12_look_53 : decode cX12_look 53 = .ok (.aload_n 0, 1) := by decide +kernel
theorem dX12_look_54 : decode cX12_look 54 = .ok (.iconst 0, 1) := by decide +kernel
theorem dX12_look_55 : decode cX12_look 55 = .ok (.putfield 68, 3) := by decide +kernel
theorem dX12_look_58 : decode cX12_look 58 = .ok (.aload_n 0, 1) := by decide +kernel
theorem dX12_look_59 : decode cX12_look 59 = .ok (.aload_n 0, 1) := by decide +kernel
theorem dX12_look_60 : decode cX12_look 60 = .ok (.getfield 47, 3) := by decide +kernel
theorem dX12_look_63 : decode cX12_look 63 = .ok (.putfield 61, 3) := by decide +kernel
theorem dX12_look_66 : decode cX12_look 66 = .ok (.goto 85, 3) := by decide +kernel
theorem dX12_look_151 : decode cX12_look 151 = .ok (.return_, 1) := by decide +kernel
theorem dX12_isSign_0 : decode cX12_isSign 0 = .ok (.aload_n 0, 1) := by decide +kernel
theorem dX12_isSign_1 : decode cX12_isSign 1 = .ok (.getfield 68, 3) := by decide +kernel
theorem dX12_isSign_4 : decode cX12_isSign 4 = .ok (.bipush 6, 2) := by decide +kernel
theorem dX12_isSign_6 : decode cX12_isSign 6 = .ok (.if_icmp .ne 15, 3) := by decide +kernel
theorem dX12_isSign_21 : decode cX12_isSign 21 = .ok (.iconst 0, 1) := by decide +kernel
theorem dX12_isSign_22 : decode cX12_isSign 22 = .ok (.ireturn, 1) := by decide +kernel
theorem dX12_begin_0 : decode cX12_begin 0 = .ok (.aload_n 0, 1) := by decide +kernel
theorem dX12_begin_1 : decode cX12_begin 1 = .ok (.getfield 138, 3) := by decide +kernel
theorem dX12_begin_4 : decode cX12_begin 4 = .ok (.aload_n 0, 1) := by decide +kernel
theorem dX12_begin_5 : decode cX12_begin 5 = .ok (.getfield 141, 3) := by decide +kernel
theorem dX12_begin_8 : decode cX12_begin 8 = .ok (.iload_n 1, 1) := by decide +kernel
theorem dX12_begin_9 : decode cX12_begin 9 = .ok (.iastore, 1) := by decide +kernel
theorem dX12_begin_10 : decode cX12_begin 10 = .ok (.aload_n 0, 1) := by decide +kernel
theorem dX12_begin_11 : decode cX12_begin 11 = .ok (.getfield 144, 3) := by decide +kernel
theorem dX12_begin_14 : decode cX12_begin 14 = .ok (.aload_n 0, 1) := by decide +kernel
theorem dX12_begin_15 : decode cX12_begin 15 = .ok (.getfield 141, 3) := by decide +kernel
theorem dX12_begin_18 : decode cX12_begin 18 = .ok (.iload_n 2, 1) := by decide +kernel
theorem dX12_begin_19 : decode cX12_begin 19 = .ok (.iastore, 1) := by decide +kernel
theorem dX12_begin_20 : decode cX12_begin 20 = .ok (.aload_n 0, 1) := by decide +kernel
theorem dX12_begin_21 : decode cX12_begin 21 = .ok (.getfield 147, 3) := by decide +kernel
theorem dX12_begin_24 : decode cX12_begin 24 = .ok (.aload_n 0, 1) := by decide +kernel
theorem dX12_begin_25 : decode cX12_begin 25 = .ok (.getfield 141, 3) := by decide +kernel
theorem dX12_begin_28 : decode cX12_begin 28 = .ok (.iconst 0, 1) := by decide +kernel
theorem dX12_begin_29 : decode cX12_begin 29 = .ok (.iastore, 1) := by decide +kernel
theorem dX12_begin_30 : decode cX12_begin 30 = .ok (.aload_n 0, 1) := by decide +kernel
theorem dX12_begin_31 : decode cX12_begin 31 = .ok (.getfield 150, 3) := by decide +kernel
theorem dX12_begin_34 : decode cX12_begin 34 = .ok (.aload_n 0, 1) := by decide +kernel
theorem dX12_begin_35 : decode cX12_begin 35 = .ok (.getfield 141, 3) := by decide +kernel
theorem dX12_begin_38 : decode cX12_begin 38 = .ok (.iload_n 3, 1) := by decide +kernel
theorem dX12_begin_39 : decode cX12_begin 39 = .ok (.iastore, 1) := by decide +kernel
theorem dX12_begin_40 : decode cX12_begin 40 = .ok (.aload_n 0, 1) := by decide +kernel
theorem dX12_begin_41 : decode cX12_begin 41 = .ok (.dup, 1) := by decide +kernel
theorem dX12_begin_42 : decode cX12_begin 42 = .ok (.getfield 141, 3) := by decide +kernel
theorem dX12_begin_45 : decode cX12_begin 45 = .ok (.iconst 1, 1) := by decide +kernel
theorem dX12_begin_46 : decode cX12_begin 46 = .ok (.iadd, 1) := by decide +kernel
theorem dX12_begin_47 : decode cX12_begin 47 = .ok (.putfield 141, 3) := by decide +kernel
theorem dX12_begin_50 : decode cX12_begin 50 = .ok (.return_, 1) := by decide +kernel
theorem dX12_readExp_0 : decode cX12_readExp 0 = .ok (.aload_n 0, 1) := by decide +kernel
theorem dX12_readExp_1 : decode cX12_readExp 1 = .ok (.iconst 0, 1) := by decide +kernel
theorem dX12_readExp_2 : decode cX12_readExp 2 = .ok (.putfield 141, 3) := by decide +kernel
theorem dX12_readExp_5 : decode cX12_readExp 5 = .ok (.aload_n 0, 1) := by decide +kernel
theorem dX12_readExp_6 : decode cX12_readExp 6 = .ok (.iconst 0, 1) := by decide +kernel
theorem dX12_readExp_7 : decode cX12_readExp 7 = .ok (.putfield 156, 3) := by decide +kernel
theorem dX12_readExp_10 : decode cX12_readExp 10 = .ok (.aload_n 0, 1) := by decide +kernel
theorem dX12_readExp_11 : decode cX12_readExp 11 = .ok (.iconst 1, 1) := by decide +kernel
theorem dX12_readExp_12 : decode cX12_readExp 12 = .ok (.iconst (-1), 1) := by decide +kernel
theorem dX12_readExp_13 : decode cX12_readExp 13 = .ok (.iconst 0, 1) := by decide +kernel
theorem dX12_readExp_14 : decode cX12_readExp 14 = .ok (.invokevirtual 159, 3) := by decide +kernel
theorem dX12_readExp_17 : decode cX12_readExp 17 = .ok (.aload_n 0, 1) := by decide +kernel
theorem dX12_readExp_18 : decode cX12_readExp 18 = .ok (.getfield 141, 3) := by decide +kernel
theorem dX12_readExp_21 : decode cX12_readExp 21 = .ok (.ifCond .le 187, 3) := by decide +kernel
theorem dX12_readExp_24 : decode cX12_readExp 24 = .ok (.aload_n 0, 1) := by decide +kernel
theorem dX12_readExp_25 : decode cX12_readExp 25 = .ok (.getfield 41, 3) := by decide +kernel
theorem dX12_readExp_28 : decode cX12_readExp 28 = .ok (.ifCond .ne 180, 3) := by decide +kernel
theorem dX12_readExp_31 : decode cX12_readExp 31 = .ok (.aload_n 0, 1) := by decide +kernel
theorem dX12_readExp_32 : decode cX12_readExp 32 = .ok (.getfield 141, 3) := by decide +kernel
theorem dX12_readExp_35 : decode cX12_readExp 35 = .ok (.iconst 1, 1) := by decide +kernel
theorem dX12_readExp_36 : decode cX12_readExp 36 = .ok (.isub, 1) := by decide +kernel
theorem dX12_readExp_37 : decode cX12_readExp 37 = .ok (.istore_n 1, 1) := by decide +kernel
theorem dX12_readExp_38 : decode cX12_readExp 38 = .ok (.aload_n 0, 1) := by decide +kernel
theorem dX12_readExp_39 : decode cX12_readExp 39 = .ok (.getfield 138, 3) := by decide +kernel
theorem dX12_readExp_42 : decode cX12_readExp 42 = .ok (.iload_n 1, 1) := by decide +kernel
theorem dX12_readExp_43 : decode cX12_readExp 43 = .ok (.iaload, 1) := by decide +kernel
theorem dX12_readExp_44 : decode cX12_readExp 44 = .ok (.tableswitch 156 1 11 #[60, 72, 84, 92, 100, 108, 116, 124, 132, 140, 148], 60) := by decide +kernel
theorem dX12_readExp_104 : decode cX12_readExp 104 = .ok (.aload_n 0, 1) := by decide +kernel
theorem dX12_readExp_105 : decode cX12_readExp 105 = .ok (.iload_n 1, 1) := by decide +kernel
theorem dX12_readExp_106 : decode cX12_readExp 106 = .ok (.bipush 38, 2) := by decide +kernel
theorem dX12_readExp_108 : decode cX12_readExp 108 = .ok (.iconst 1, 1) := by decide +kernel
theorem dX12_readExp_109 : decode cX12_readExp 109 = .ok (.iconst 2, 1) := by decide +kernel
theorem dX12_readExp_110 : decode cX12_readExp 110 = .ok (.invokevirtual 163, 3) := by decide +kernel
theorem dX12_readExp_113 : decode cX12_readExp 113 = .ok (.goto 92, 3) := by decide +kernel
theorem dX12_readExp_116 : decode cX12_readExp 116 = .ok (.aload_n 0, 1) := by decide +kernel
theorem dX12_readExp_117 : decode cX12_readExp 117 = .ok (.iload_n 1, 1) := by decide +kernel
theorem dX12_readExp_118 : decode cX12_readExp 118 = .ok (.bipush 59, 2) := by decide +kernel
theorem dX12_readExp_120 : decode cX12_readExp 120 = .ok (.iconst 2, 1) := by decide +kernel
theorem dX12_readExp_121 : decode cX12_readExp 121 = .ok (.iconst 3, 1) := by decide +kernel
theorem dX12_readExp_122 : decode cX12_readExp 122 = .ok (.invokevirtual 163, 3) := by decide +kernel
theorem dX12_readExp_125 : decode cX12_readExp 125 = .ok (.goto 80, 3) := by decide +kernel
theorem dX12_readExp_128 : decode cX12_readExp 128 = .ok (.aload_n 0, 1) := by decide +kernel
theorem dX12_readExp_129 : decode cX12_readExp 129 = .ok (.iload_n 1, 1) := by decide +kernel
theorem dX12_readExp_130 : decode cX12_readExp 130 = .ok (.invokevirtual 167, 3) := by decide +kernel
theorem dX12_readExp_133 : decode cX12_readExp 133 = .ok (.goto 72, 3) := by decide +kernel
theorem dX12_readExp_136 : decode cX12_readExp 136 = .ok (.aload_n 0, 1) := by decide +kernel
theorem dX12_readExp_137 : decode cX12_readExp 137 = .ok (.iload_n 1, 1) := by decide +kernel
theorem dX12_readExp_138 : decode cX12_readExp 138 = .ok (.invokevirtual 170, 3) := by decide +kernel
theorem dX12_readExp_141 : decode cX12_readExp 141 = .ok (.goto 64, 3) := by decide +kernel
theorem dX12_readExp_144 : decode cX12_readExp 144 = .ok (.aload_n 0, 1) := by decide +kernel
theorem dX12_readExp_145 : decode cX12_readExp 145 = .ok (.iload_n 1, 1) := by decide +kernel
theorem dX12_readExp_146 : decode cX12_readExp 146 = .ok (.invokevirtual 173, 3) := by decide +kernel
theorem dX12_readExp_149 : decode cX12_readExp 149 = .ok (.goto 56, 3) := by decide +kernel
theorem dX12_readExp_205 : decode cX12_readExp 205 = .ok (.goto (-188), 3) := by decide +kernel
theorem dX12_readExp_208 : decode cX12_readExp 208 = .ok (.return_, 1) := by decide +kernel
theorem dX12_readRow_0 : decode cX12_readRow 0 = .ok (.aload_n 0, 1) := by decide +kernel
theorem dX12_readRow_1 : decode cX12_readRow 1 = .ok (.getfield 147, 3) := by decide +kernel
theorem dX12_readRow_4 : decode cX12_readRow 4 = .ok (.iload_n 1, 1) := by decide +kernel
theorem dX12_readRow_5 : decode cX12_readRow 5 = .ok (.iaload, 1) := by decide +kernel
theorem dX12_readRow_6 : decode cX12_readRow 6 = .ok (.ifCond .ne 19, 3) := by decide +kernel
theorem dX12_readRow_9 : decode cX12_readRow 9 = .ok (.aload_n 0, 1) := by decide +kernel
theorem dX12_readRow_10 : decode cX12_readRow 10 = .ok (.getfield 147, 3) := by decide +kernel
theorem dX12_readRow_13 : decode cX12_readRow 13 = .ok (.iload_n 1, 1) := by decide +kernel
theorem dX12_readRow_14 : decode cX12_readRow 14 = .ok (.iconst 1, 1) := by decide +kernel
theorem dX12_readRow_15 : decode cX12_readRow 15 = .ok (.iastore, 1) := by decide +kernel
theorem dX12_readRow_16 : decode cX12_readRow 16 = .ok (.aload_n 0, 1) := by decide +kernel
theorem dX12_readRow_17 : decode cX12_readRow 17 = .ok (.iload 4, 2) := by decide +kernel
theorem dX12_readRow_19 : decode cX12_readRow 19 = .ok (.iconst (-1), 1) := by decide +kernel
theorem dX12_readRow_20 : decode cX12_readRow 20 = .ok (.iconst 0, 1) := by decide +kernel
theorem dX12_readRow_21 : decode cX12_readRow 21 = .ok (.invokevirtual 159, 3) := by decide +kernel
theorem dX12_readRow_24 : decode cX12_readRow 24 = .ok (.return_, 1) := by decide +kernel
theorem dX12_readSum_0 : decode cX12_readSum 0 = .ok (.aload_n 0, 1) := by decide +kernel
theorem dX12_readSum_1 : decode cX12_readSum 1 = .ok (.getfield 147, 3) := by decide +kernel
theorem dX12_readSum_4 : decode cX12_readSum 4 = .ok (.iload_n 1, 1) := by decide +kernel
theorem dX12_readSum_5 : decode cX12_readSum 5 = .ok (.iaload, 1) := by decide +kernel
theorem dX12_readSum_6 : decode cX12_readSum 6 = .ok (.ifCond .ne 18, 3) := by decide +kernel
theorem dX12_readSum_9 : decode cX12_readSum 9 = .ok (.aload_n 0, 1) := by decide +kernel
theorem dX12_readSum_10 : decode cX12_readSum 10 = .ok (.getfield 147, 3) := by decide +kernel
theorem dX12_readSum_13 : decode cX12_readSum 13 = .ok (.iload_n 1, 1) := by decide +kernel
theorem dX12_readSum_14 : decode cX12_readSum 14 = .ok (.iconst 1, 1) := by decide +kernel
theorem dX12_readSum_15 : decode cX12_readSum 15 = .ok (.iastore, 1) := by decide +kernel
theorem dX12_readSum_16 : decode cX12_readSum 16 = .ok (.aload_n 0, 1) := by decide +kernel
theorem dX12_readSum_17 : decode cX12_readSum 17 = .ok (.iconst 4, 1) := by decide +kernel
theorem dX12_readSum_18 : decode cX12_readSum 18 = .ok (.iconst (-1), 1) := by decide +kernel
theorem dX12_readSum_19 : decode cX12_readSum 19 = .ok (.iconst 0, 1) := by decide +kernel
theorem dX12_readSum_20 : decode cX12_readSum 20 = .ok (.invokevirtual 159, 3) := by decide +kernel
theorem dX12_readSum_23 : decode cX12_readSum 23 = .ok (.return_, 1) := by decide +kernel
theorem dX12_readApp_0 : decode cX12_readApp 0 = .ok (.aload_n 0, 1) := by decide +kernel
theorem dX12_readApp_1 : decode cX12_readApp 1 = .ok (.getfield 147, 3) := by decide +kernel
theorem dX12_readApp_4 : decode cX12_readApp 4 = .ok (.iload_n 1, 1) := by decide +kernel
theorem dX12_readApp_5 : decode cX12_readApp 5 = .ok (.iaload, 1) := by decide +kernel
theorem dX12_readApp_6 : decode cX12_readApp 6 = .ok (.iconst 1, 1) := by decide +kernel
theorem dX12_readApp_7 : decode cX12_readApp 7 = .ok (.if_icmp .ne 14, 3) := by decide +kernel
theorem dX12_readApp_21 : decode cX12_readApp 21 = .ok (.aload_n 0, 1) := by decide +kernel
theorem dX12_readApp_22 : decode cX12_readApp 22 = .ok (.getfield 68, 3) := by decide +kernel
theorem dX12_readApp_25 : decode cX12_readApp 25 = .ok (.iconst 2, 1) := by decide +kernel
theorem dX12_readApp_26 : decode cX12_readApp 26 = .ok (.if_icmp .ne 18, 3) := by decide +kernel
theorem dX12_readApp_44 : decode cX12_readApp 44 = .ok (.iconst (-1), 1) := by decide +kernel
theorem dX12_readApp_45 : decode cX12_readApp 45 = .ok (.istore_n 2, 1) := by decide +kernel
theorem dX12_readApp_46 : decode cX12_readApp 46 = .ok (.aload_n 0, 1) := by decide +kernel
theorem dX12_readApp_47 : decode cX12_readApp 47 = .ok (.getfield 68, 3) := by decide +kernel
theorem dX12_readApp_50 : decode cX12_readApp 50 = .ok (.iconst 2, 1) := by decide +kernel
theorem dX12_readApp_51 : decode cX12_readApp 51 = .ok (.if_icmp .ne 18, 3) := by decide +kernel
theorem dX12_readApp_69 : decode cX12_readApp 69 = .ok (.iconst (-1), 1) := by decide +kernel
theorem dX12_readApp_70 : decode cX12_readApp 70 = .ok (.istore_n 3, 1) := by decide +kernel
theorem dX12_readApp_71 : decode cX12_readApp 71 = .ok (.iload_n 3, 1) := by decide +kernel
theorem dX12_readApp_72 : decode cX12_readApp 72 = .ok (.ifCond .lt 59, 3) := by decide +kernel
theorem dX12_readApp_131 : decode cX12_readApp 131 = .ok (.iload_n 2, 1) := by decide +kernel
theorem dX12_readApp_132 : decode cX12_readApp 132 = .ok (.ifCond .lt 71, 3) := by decide +kernel
theorem dX12_readApp_203 : decode cX12_readApp 203 = .ok (.aload_n 0, 1) := by decide +kernel
theorem dX12_readApp_204 : decode cX12_readApp 204 = .ok (.dup, 1) := by decide +kernel
theorem dX12_readApp_205 : decode cX12_readApp 205 = .ok (.getfield 141, 3) := by decide +kernel
theorem dX12_readApp_208 : decode cX12_readApp 208 = .ok (.iconst 1, 1) := by decide +kernel
theorem dX12_readApp_209 : decode cX12_readApp 209 = .ok (.isub, 1) := by decide +kernel
theorem dX12_readApp_210 : decode cX12_readApp 210 = .ok (.putfield 141, 3) := by decide +kernel
theorem dX12_readApp_213 : decode cX12_readApp 213 = .ok (.aload_n 0, 1) := by decide +kernel
theorem dX12_readApp_214 : decode cX12_readApp 214 = .ok (.iconst 5, 1) := by decide +kernel
theorem dX12_readApp_215 : decode cX12_readApp 215 = .ok (.iconst (-1), 1) := by decide +kernel
theorem dX12_readApp_216 : decode cX12_readApp 216 = .ok (.iconst 0, 1) := by decide +kernel
theorem dX12_readApp_217 : decode cX12_readApp 217 = .ok (.invokevirtual 159, 3) := by decide +kernel
theorem dX12_readApp_220 : decode cX12_readApp 220 = .ok (.return_, 1) := by decide +kernel
theorem dX12_readArg_0 : decode cX12_readArg 0 = .ok (.aload_n 0, 1) := by decide +kernel
theorem dX12_readArg_1 : decode cX12_readArg 1 = .ok (.getfield 147, 3) := by decide +kernel
theorem dX12_readArg_4 : decode cX12_readArg 4 = .ok (.iload_n 1, 1) := by decide +kernel
theorem dX12_readArg_5 : decode cX12_readArg 5 = .ok (.iaload, 1) := by decide +kernel
theorem dX12_readArg_6 : decode cX12_readArg 6 = .ok (.iconst 1, 1) := by decide +kernel
theorem dX12_readArg_7 : decode cX12_readArg 7 = .ok (.if_icmp .ne 47, 3) := by decide +kernel
theorem dX12_readArg_54 : decode cX12_readArg 54 = .ok (.aload_n 0, 1) := by decide +kernel
theorem dX12_readArg_55 : decode cX12_readArg 55 = .ok (.getfield 147, 3) := by decide +kernel
theorem dX12_readArg_58 : decode cX12_readArg 58 = .ok (.iload_n 1, 1) := by decide +kernel
theorem dX12_readArg_59 : decode cX12_readArg 59 = .ok (.iaload, 1) := by decide +kernel
theorem dX12_readArg_60 : decode cX12_readArg 60 = .ok (.iconst 2, 1) := by decide +kernel
theorem dX12_readArg_61 : decode cX12_readArg 61 = .ok (.if_icmp .ne 70, 3) := by decide +kernel
theorem dX12_readArg_131 : decode cX12_readArg 131 = .ok (.aload_n 0, 1) := by decide +kernel
theorem dX12_readArg_132 : decode cX12_readArg 132 = .ok (.getfield 68, 3) := by decide +kernel
theorem dX12_readArg_135 : decode cX12_readArg 135 = .ok (.iconst 5, 1) := by decide +kernel
theorem dX12_readArg_136 : decode cX12_readArg 136 = .ok (.if_icmp .ne 60, 3) := by decide +kernel
theorem dX12_readArg_196 : decode cX12_readArg 196 = .ok (.aload_n 0, 1) := by decide +kernel
theorem dX12_readArg_197 : decode cX12_readArg 197 = .ok (.bipush 40, 2) := by decide +kernel
theorem dX12_readArg_199 : decode cX12_readArg 199 = .ok (.invokevirtual 197, 3) := by decide +kernel
theorem dX12_readArg_202 : decode cX12_readArg 202 = .ok (.ifCond .eq 36, 3) := by decide +kernel
theorem dX12_readArg_238 : decode cX12_readArg 238 = .ok (.aload_n 0, 1) := by decide +kernel
theorem dX12_readArg_239 : decode cX12_readArg 239 = .ok (.getfield 68, 3) := by decide +kernel
theorem dX12_readArg_242 : decode cX12_readArg 242 = .ok (.iconst 2, 1) := by decide +kernel
theorem dX12_readArg_243 : decode cX12_readArg 243 = .ok (.if_icmp .ne 103, 3) := by decide +kernel
theorem dX12_readArg_346 : decode cX12_readArg 346 = .ok (.aload_n 0, 1) := by decide +kernel
theorem dX12_readArg_347 : decode cX12_readArg 347 = .ok (.iconst 1, 1) := by decide +kernel
theorem dX12_readArg_348 : decode cX12_readArg 348 = .ok (.aload_n 0, 1) := by decide +kernel
theorem dX12_readArg_349 : decode cX12_readArg 349 = .ok (.getfield 58, 3) := by decide +kernel
theorem dX12_readArg_352 : decode cX12_readArg 352 = .ok (.invokevirtual 237, 3) := by decide +kernel
theorem dX12_readArg_355 : decode cX12_readArg 355 = .ok (.return_, 1) := by decide +kernel
theorem dX12_feed_0 : decode cX12_feed 0 = .ok (.aload_n 0, 1) := by decide +kernel
theorem dX12_feed_1 : decode cX12_feed 1 = .ok (.getfield 47, 3) := by decide +kernel
theorem dX12_feed_4 : decode cX12_feed 4 = .ok (.sipush 1980, 3) := by decide +kernel
theorem dX12_feed_7 : decode cX12_feed 7 = .ok (.if_icmp .le 5, 3) := by decide +kernel
theorem dX12_feed_12 : decode cX12_feed 12 = .ok (.iconst 0, 1) := by decide +kernel
theorem dX12_feed_13 : decode cX12_feed 13 = .ok (.istore 6, 2) := by decide +kernel
theorem dX12_feed_15 : decode cX12_feed 15 = .ok (.iload 6, 2) := by decide +kernel
theorem dX12_feed_17 : decode cX12_feed 17 = .ok (.bipush 20, 2) := by decide +kernel
theorem dX12_feed_19 : decode cX12_feed 19 = .ok (.if_icmp .ge 83, 3) := by decide +kernel
theorem dX12_feed_22 : decode cX12_feed 22 = .ok (.iload 6, 2) := by decide +kernel
theorem dX12_feed_24 : decode cX12_feed 24 = .ok (.iconst 4, 1) := by decide +kernel
theorem dX12_feed_25 : decode cX12_feed 25 = .ok (.if_icmp .ge 7, 3) := by decide +kernel
theorem dX12_feed_28 : decode cX12_feed 28 = .ok (.iload_n 1, 1) := by decide +kernel
theorem dX12_feed_29 : decode cX12_feed 29 = .ok (.goto 39, 3) := by decide +kernel
theorem dX12_feed_32 : decode cX12_feed 32 = .ok (.iload 6, 2) := by decide +kernel
theorem dX12_feed_34 : decode cX12_feed 34 = .ok (.bipush 8, 2) := by decide +kernel
theorem dX12_feed_36 : decode cX12_feed 36 = .ok (.if_icmp .ge 7, 3) := by decide +kernel
theorem dX12_feed_39 : decode cX12_feed 39 = .ok (.iload_n 2, 1) := by decide +kernel
theorem dX12_feed_40 : decode cX12_feed 40 = .ok (.goto 28, 3) := by decide +kernel
theorem dX12_feed_43 : decode cX12_feed 43 = .ok (.iload 6, 2) := by decide +kernel
theorem dX12_feed_45 : decode cX12_feed 45 = .ok (.bipush 12, 2) := by decide +kernel
theorem dX12_feed_47 : decode cX12_feed 47 = .ok (.if_icmp .ge 7, 3) := by decide +kernel
theorem dX12_feed_50 : decode cX12_feed 50 = .ok (.iload_n 3, 1) := by decide +kernel
theorem dX12_feed_51 : decode cX12_feed 51 = .ok (.goto 17, 3) := by decide +kernel
theorem dX12_feed_54 : decode cX12_feed 54 = .ok (.iload 6, 2) := by decide +kernel
theorem dX12_feed_56 : decode cX12_feed 56 = .ok (.bipush 16, 2) := by decide +kernel
theorem dX12_feed_58 : decode cX12_feed 58 = .ok (.if_icmp .ge 8, 3) := by decide +kernel
theorem dX12_feed_61 : decode cX12_feed 61 = .ok (.iload 4, 2) := by decide +kernel
theorem dX12_feed_63 : decode cX12_feed 63 = .ok (.goto 5, 3) := by decide +kernel
theorem dX12_feed_66 : decode cX12_feed 66 = .ok (.iload 5, 2) := by decide +kernel
theorem dX12_feed_68 : decode cX12_feed 68 = .ok (.istore 7, 2) := by decide +kernel
theorem dX12_feed_70 : decode cX12_feed 70 = .ok (.aload_n 0, 1) := by decide +kernel
theorem dX12_feed_71 : decode cX12_feed 71 = .ok (.getfield 50, 3) := by decide +kernel
theorem dX12_feed_74 : decode cX12_feed 74 = .ok (.aload_n 0, 1) := by decide +kernel
theorem dX12_feed_75 : decode cX12_feed 75 = .ok (.getfield 47, 3) := by decide +kernel
theorem dX12_feed_78 : decode cX12_feed 78 = .ok (.iload 6, 2) := by decide +kernel
theorem dX12_feed_80 : decode cX12_feed 80 = .ok (.iadd, 1) := by decide +kernel
theorem dX12_feed_81 : decode cX12_feed 81 = .ok (.iload 7, 2) := by decide +kernel
theorem dX12_feed_83 : decode cX12_feed 83 = .ok (.bipush 24, 2) := by decide +kernel
theorem dX12_feed_85 : decode cX12_feed 85 = .ok (.bipush 8, 2) := by decide +kernel
theorem dX12_feed_87 : decode cX12_feed 87 = .ok (.iload 6, 2) := by decide +kernel
theorem dX12_feed_89 : decode cX12_feed 89 = .ok (.iconst 4, 1) := by decide +kernel
theorem dX12_feed_90 : decode cX12_feed 90 = .ok (.irem, 1) := by decide +kernel
theorem dX12_feed_91 : decode cX12_feed 91 = .ok (.imul, 1) := by decide +kernel
theorem dX12_feed_92 : decode cX12_feed 92 = .ok (.isub, 1) := by decide +kernel
theorem dX12_feed_93 : decode cX12_feed 93 = .ok (.ishr, 1) := by decide +kernel
theorem dX12_feed_94 : decode cX12_feed 94 = .ok (.i2b, 1) := by decide +kernel
theorem dX12_feed_95 : decode cX12_feed 95 = .ok (.bastore, 1) := by decide +kernel
theorem dX12_feed_96 : decode cX12_feed 96 = .ok (.iinc 6 1, 3) := by decide +kernel
theorem dX12_feed_99 : decode cX12_feed 99 = .ok (.goto (-84), 3) := by decide +kernel
theorem dX12_feed_102 : decode cX12_feed 102 = .ok (.aload_n 0, 1) := by decide +kernel
theorem dX12_feed_103 : decode cX12_feed 103 = .ok (.dup, 1) := by decide +kernel
theorem dX12_feed_104 : decode cX12_feed 104 = .ok (.getfield 47, 3) := by decide +kernel
theorem dX12_feed_107 : decode cX12_feed 107 = .ok (.bipush 20, 2) := by decide +kernel
theorem dX12_feed_109 : decode cX12_feed 109 = .ok (.iadd, 1) := by decide +kernel
theorem dX12_feed_110 : decode cX12_feed 110 = .ok (.putfield 47, 3) := by decide +kernel
theorem dX12_feed_113 : decode cX12_feed 113 = .ok (.iconst 1, 1) := by decide +kernel
theorem dX12_feed_114 : decode cX12_feed 114 = .ok (.ireturn, 1) := by decide +kernel
theorem dX12_end_0 : decode cX12_end 0 = .ok (.iload_n 1, 1) := by decide +kernel
theorem dX12_end_1 : decode cX12_end 1 = .ok (.ifCond .lt 11, 3) := by decide +kernel
theorem dX12_end_4 : decode cX12_end 4 = .ok (.iload_n 1, 1) := by decide +kernel
theorem dX12_end_5 : decode cX12_end 5 = .ok (.aload_n 0, 1) := by decide +kernel
theorem dX12_end_6 : decode cX12_end 6 = .ok (.getfield 47, 3) := by decide +kernel
theorem dX12_end_9 : decode cX12_end 9 = .ok (.if_icmp .le 5, 3) := by decide +kernel
theorem dX12_end_12 : decode cX12_end 12 = .ok (.iconst 0, 1) := by decide +kernel
theorem dX12_end_13 : decode cX12_end 13 = .ok (.ireturn, 1) := by decide +kernel
theorem dX12_end_14 : decode cX12_end 14 = .ok (.aload_n 0, 1) := by decide +kernel
theorem dX12_end_15 : decode cX12_end 15 = .ok (.iload_n 1, 1) := by decide +kernel
theorem dX12_end_16 : decode cX12_end 16 = .ok (.putfield 47, 3) := by decide +kernel
theorem dX12_end_19 : decode cX12_end 19 = .ok (.iconst 1, 1) := by decide +kernel
theorem dX12_end_20 : decode cX12_end 20 = .ok (.ireturn, 1) := by decide +kernel
theorem dX12_begins_0 : decode cX12_begins 0 = .ok (.aload_n 0, 1) := by decide +kernel
theorem dX12_begins_1 : decode cX12_begins 1 = .ok (.iconst 0, 1) := by decide +kernel
theorem dX12_begins_2 : decode cX12_begins 2 = .ok (.putfield 41, 3) := by decide +kernel
theorem dX12_begins_5 : decode cX12_begins 5 = .ok (.aload_n 0, 1) := by decide +kernel
theorem dX12_begins_6 : decode cX12_begins 6 = .ok (.iconst (-1), 1) := by decide +kernel
theorem dX12_begins_7 : decode cX12_begins 7 = .ok (.putfield 44, 3) := by decide +kernel
theorem dX12_begins_10 : decode cX12_begins 10 = .ok (.aload_n 0, 1) := by decide +kernel
theorem dX12_begins_11 : decode cX12_begins 11 = .ok (.iconst 0, 1) := by decide +kernel
theorem dX12_begins_12 : decode cX12_begins 12 = .ok (.putfield 306, 3) := by decide +kernel
theorem dX12_begins_15 : decode cX12_begins 15 = .ok (.aload_n 0, 1) := by decide +kernel
theorem dX12_begins_16 : decode cX12_begins 16 = .ok (.iconst 0, 1) := by decide +kernel
theorem dX12_begins_17 : decode cX12_begins 17 = .ok (.putfield 116, 3) := by decide +kernel
theorem dX12_begins_20 : decode cX12_begins 20 = .ok (.aload_n 0, 1) := by decide +kernel
theorem dX12_begins_21 : decode cX12_begins 21 = .ok (.aload_n 0, 1) := by decide +kernel
theorem dX12_begins_22 : decode cX12_begins 22 = .ok (.getfield 1, 3) := by decide +kernel
theorem dX12_begins_25 : decode cX12_begins 25 = .ok (.putfield 807, 3) := by decide +kernel
theorem dX12_begins_28 : decode cX12_begins 28 = .ok (.aload_n 0, 1) := by decide +kernel
theorem dX12_begins_29 : decode cX12_begins 29 = .ok (.aload_n 0, 1) := by decide +kernel
theorem dX12_begins_30 : decode cX12_begins 30 = .ok (.getfield 372, 3) := by decide +kernel
theorem dX12_begins_33 : decode cX12_begins 33 = .ok (.putfield 810, 3) := by decide +kernel
theorem dX12_begins_36 : decode cX12_begins 36 = .ok (.aload_n 0, 1) := by decide +kernel
theorem dX12_begins_37 : decode cX12_begins 37 = .ok (.aload_n 0, 1) := by decide +kernel
theorem dX12_begins_38 : decode cX12_begins 38 = .ok (.getfield 369, 3) := by decide +kernel
theorem dX12_begins_41 : decode cX12_begins 41 = .ok (.putfield 813, 3) := by decide +kernel
theorem dX12_begins_44 : decode cX12_begins 44 = .ok (.aload_n 0, 1) := by decide +kernel
theorem dX12_begins_45 : decode cX12_begins 45 = .ok (.aload_n 0, 1) := by decide +kernel
theorem dX12_begins_46 : decode cX12_begins 46 = .ok (.getfield 816, 3) := by decide +kernel
theorem dX12_begins_49 : decode cX12_begins 49 = .ok (.putfield 819, 3) := by decide +kernel
theorem dX12_begins_52 : decode cX12_begins 52 = .ok (.aload_n 0, 1) := by decide +kernel
theorem dX12_begins_53 : decode cX12_begins 53 = .ok (.aload_n 0, 1) := by decide +kernel
theorem dX12_begins_54 : decode cX12_begins 54 = .ok (.getfield 822, 3) := by decide +kernel
theorem dX12_begins_57 : decode cX12_begins 57 = .ok (.putfield 126, 3) := by decide +kernel
theorem dX12_begins_60 : decode cX12_begins 60 = .ok (.iconst 0, 1) := by decide +kernel
theorem dX12_begins_61 : decode cX12_begins 61 = .ok (.istore_n 1, 1) := by decide +kernel
theorem dX12_begins_62 : decode cX12_begins 62 = .ok (.iload_n 1, 1) := by decide +kernel
theorem dX12_begins_63 : decode cX12_begins 63 = .ok (.aload_n 0, 1) := by decide +kernel
theorem dX12_begins_64 : decode cX12_begins 64 = .ok (.getfield 822, 3) := by decide +kernel
theorem dX12_begins_67 : decode cX12_begins 67 = .ok (.if_icmp .ge 21, 3) := by decide +kernel
theorem dX12_begins_88 : decode cX12_begins 88 = .ok (.aload_n 0, 1) := by decide +kernel
theorem dX12_begins_89 : decode cX12_begins 89 = .ok (.iconst 0, 1) := by decide +kernel
theorem dX12_begins_90 : decode cX12_begins 90 = .ok (.invokevirtual 108, 3) := by decide +kernel
theorem dX12_begins_93 : decode cX12_begins 93 = .ok (.return_, 1) := by decide +kernel
theorem dX12_over_0 : decode cX12_over 0 = .ok (.aload_n 0, 1) := by decide +kernel
theorem dX12_over_1 : decode cX12_over 1 = .ok (.aload_n 0, 1) := by decide +kernel
theorem dX12_over_2 : decode cX12_over 2 = .ok (.getfield 41, 3) := by decide +kernel
theorem dX12_over_5 : decode cX12_over 5 = .ok (.putfield 726, 3) := by decide +kernel
theorem dX12_over_8 : decode cX12_over 8 = .ok (.aload_n 0, 1) := by decide +kernel
theorem dX12_over_9 : decode cX12_over 9 = .ok (.aload_n 0, 1) := by decide +kernel
theorem dX12_over_10 : decode cX12_over 10 = .ok (.getfield 41, 3) := by decide +kernel
theorem dX12_over_13 : decode cX12_over 13 = .ok (.ifCond .eq 12, 3) := by decide +kernel
theorem dX12_over_16 : decode cX12_over 16 = .ok (.aload_n 0, 1) := by decide +kernel
theorem dX12_over_17 : decode cX12_over 17 = .ok (.getfield 41, 3) := by decide +kernel
theorem dX12_over_20 : decode cX12_over 20 = .ok (.bipush 11, 2) := by decide +kernel
theorem dX12_over_22 : decode cX12_over 22 = .ok (.if_icmp .ne 7, 3) := by decide +kernel
theorem dX12_over_25 : decode cX12_over 25 = .ok (.iconst (-1), 1) := by decide +kernel
theorem dX12_over_26 : decode cX12_over 26 = .ok (.goto 7, 3) := by decide +kernel
theorem dX12_over_29 : decode cX12_over 29 = .ok (.aload_n 0, 1) := by decide +kernel
theorem dX12_over_30 : decode cX12_over 30 = .ok (.getfield 44, 3) := by decide +kernel
theorem dX12_over_33 : decode cX12_over 33 = .ok (.putfield 729, 3) := by decide +kernel
theorem dX12_over_36 : decode cX12_over 36 = .ok (.aload_n 0, 1) := by decide +kernel
theorem dX12_over_37 : decode cX12_over 37 = .ok (.aload_n 0, 1) := by decide +kernel
theorem dX12_over_38 : decode cX12_over 38 = .ok (.getfield 306, 3) := by decide +kernel
theorem dX12_over_41 : decode cX12_over 41 = .ok (.putfield 732, 3) := by decide +kernel
theorem dX12_over_44 : decode cX12_over 44 = .ok (.aload_n 0, 1) := by decide +kernel
theorem dX12_over_45 : decode cX12_over 45 = .ok (.iconst 0, 1) := by decide +kernel
theorem dX12_over_46 : decode cX12_over 46 = .ok (.putfield 47, 3) := by decide +kernel
theorem dX12_over_49 : decode cX12_over 49 = .ok (.aload_n 0, 1) := by decide +kernel
theorem dX12_over_50 : decode cX12_over 50 = .ok (.getfield 41, 3) := by decide +kernel
theorem dX12_over_53 : decode cX12_over 53 = .ok (.ifCond .ne 5, 3) := by decide +kernel
theorem dX12_over_56 : decode cX12_over 56 = .ok (.iconst 0, 1) := by decide +kernel
theorem dX12_over_57 : decode cX12_over 57 = .ok (.ireturn, 1) := by decide +kernel
theorem dX12_over_58 : decode cX12_over 58 = .ok (.aload_n 0, 1) := by decide +kernel
theorem dX12_over_59 : decode cX12_over 59 = .ok (.aload_n 0, 1) := by decide +kernel
theorem dX12_over_60 : decode cX12_over 60 = .ok (.getfield 807, 3) := by decide +kernel
theorem dX12_over_63 : decode cX12_over 63 = .ok (.putfield 1, 3) := by decide +kernel
theorem dX12_over_66 : decode cX12_over 66 = .ok (.aload_n 0, 1) := by decide +kernel
theorem dX12_over_67 : decode cX12_over 67 = .ok (.aload_n 0, 1) := by decide +kernel
theorem dX12_over_68 : decode cX12_over 68 = .ok (.getfield 810, 3) := by decide +kernel
theorem dX12_over_71 : decode cX12_over 71 = .ok (.putfield 372, 3) := by decide +kernel
theorem dX12_over_74 : decode cX12_over 74 = .ok (.aload_n 0, 1) := by decide +kernel
theorem dX12_over_75 : decode cX12_over 75 = .ok (.aload_n 0, 1) := by decide +kernel
theorem dX12_over_76 : decode cX12_over 76 = .ok (.getfield 813, 3) := by decide +kernel
theorem dX12_over_79 : decode cX12_over 79 = .ok (.putfield 369, 3) := by decide +kernel
theorem dX12_over_82 : decode cX12_over 82 = .ok (.aload_n 0, 1) := by decide +kernel
theorem dX12_over_83 : decode cX12_over 83 = .ok (.aload_n 0, 1) := by decide +kernel
theorem dX12_over_84 : decode cX12_over 84 = .ok (.getfield 819, 3) := by decide +kernel
theorem dX12_over_87 : decode cX12_over 87 = .ok (.putfield 816, 3) := by decide +kernel
theorem dX12_over_90 : decode cX12_over 90 = .ok (.aload_n 0, 1) := by decide +kernel
theorem dX12_over_91 : decode cX12_over 91 = .ok (.getfield 41, 3) := by decide +kernel
theorem dX12_over_94 : decode cX12_over 94 = .ok (.ireturn, 1) := by decide +kernel
theorem dX12_read_0 : decode cX12_read 0 = .ok (.aload_n 0, 1) := by decide +kernel
theorem dX12_read_1 : decode cX12_read 1 = .ok (.invokevirtual 834, 3) := by decide +kernel
theorem dX12_read_4 : decode cX12_read 4 = .ok (.aload_n 0, 1) := by decide +kernel
theorem dX12_read_5 : decode cX12_read 5 = .ok (.getfield 41, 3) := by decide +kernel
theorem dX12_read_8 : decode cX12_read 8 = .ok (.ifCond .ne 32, 3) := by decide +kernel
theorem dX12_read_11 : decode cX12_read 11 = .ok (.aload_n 0, 1) := by decide +kernel
theorem dX12_read_12 : decode cX12_read 12 = .ok (.getfield 68, 3) := by decide +kernel
theorem dX12_read_15 : decode cX12_read 15 = .ok (.ifCond .eq 25, 3) := by decide +kernel
theorem dX12_read_40 : decode cX12_read 40 = .ok (.aload_n 0, 1) := by decide +kernel
theorem dX12_read_41 : decode cX12_read 41 = .ok (.getfield 41, 3) := by decide +kernel
theorem dX12_read_44 : decode cX12_read 44 = .ok (.ifCond .ne 19, 3) := by decide +kernel
theorem dX12_read_47 : decode cX12_read 47 = .ok (.aload_n 0, 1) := by decide +kernel
theorem dX12_read_48 : decode cX12_read 48 = .ok (.getfield 126, 3) := by decide +kernel
theorem dX12_read_51 : decode cX12_read 51 = .ok (.bipush 40, 2) := by decide +kernel
theorem dX12_read_53 : decode cX12_read 53 = .ok (.if_icmp .le 10, 3) := by decide +kernel
theorem dX12_read_63 : decode cX12_read 63 = .ok (.aload_n 0, 1) := by decide +kernel
theorem dX12_read_64 : decode cX12_read 64 = .ok (.getfield 41, 3) := by decide +kernel
theorem dX12_read_67 : decode cX12_read 67 = .ok (.ifCond .ne 39, 3) := by decide +kernel
theorem dX12_read_70 : decode cX12_read 70 = .ok (.aload_n 0, 1) := by decide +kernel
theorem dX12_read_71 : decode cX12_read 71 = .ok (.aload_n 0, 1) := by decide +kernel
theorem dX12_read_72 : decode cX12_read 72 = .ok (.getfield 126, 3) := by decide +kernel
theorem dX12_read_75 : decode cX12_read 75 = .ok (.putfield 822, 3) := by decide +kernel
theorem dX12_read_78 : decode cX12_read 78 = .ok (.iconst 0, 1) := by decide +kernel
theorem dX12_read_79 : decode cX12_read 79 = .ok (.istore_n 1, 1) := by decide +kernel
theorem dX12_read_80 : decode cX12_read 80 = .ok (.iload_n 1, 1) := by decide +kernel
theorem dX12_read_81 : decode cX12_read 81 = .ok (.aload_n 0, 1) := by decide +kernel
theorem dX12_read_82 : decode cX12_read 82 = .ok (.getfield 822, 3) := by decide +kernel
theorem dX12_read_85 : decode cX12_read 85 = .ok (.if_icmp .ge 21, 3) := by decide +kernel
theorem dX12_read_106 : decode cX12_read 106 = .ok (.aload_n 0, 1) := by decide +kernel
theorem dX12_read_107 : decode cX12_read 107 = .ok (.invokevirtual 840, 3) := by decide +kernel
theorem dX12_read_110 : decode cX12_read 110 = .ok (.ireturn, 1) := by decide +kernel
theorem dX12_hang_0 : decode cX12_hang 0 = .ok (.iload_n 1, 1) := by decide +kernel
theorem dX12_hang_1 : decode cX12_hang 1 = .ok (.ifCond .lt 9, 3) := by decide +kernel
theorem dX12_hang_4 : decode cX12_hang 4 = .ok (.iload_n 1, 1) := by decide +kernel
theorem dX12_hang_5 : decode cX12_hang 5 = .ok (.bipush 8, 2) := by decide +kernel
theorem dX12_hang_7 : decode cX12_hang 7 = .ok (.if_icmp .lt 5, 3) := by decide +kernel
theorem dX12_hang_10 : decode cX12_hang 10 = .ok (.iconst (-1), 1) := by decide +kernel
theorem dX12_hang_11 : decode cX12_hang 11 = .ok (.ireturn, 1) := by decide +kernel
theorem dX12_hang_12 : decode cX12_hang 12 = .ok (.aload_n 0, 1) := by decide +kernel
theorem dX12_hang_13 : decode cX12_hang 13 = .ok (.invokevirtual 834, 3) := by decide +kernel
theorem dX12_hang_16 : decode cX12_hang 16 = .ok (.aload_n 0, 1) := by decide +kernel
theorem dX12_hang_17 : decode cX12_hang 17 = .ok (.invokevirtual 828, 3) := by decide +kernel
theorem dX12_hang_20 : decode cX12_hang 20 = .ok (.aload_n 0, 1) := by decide +kernel
theorem dX12_hang_21 : decode cX12_hang 21 = .ok (.getfield 41, 3) := by decide +kernel
theorem dX12_hang_24 : decode cX12_hang 24 = .ok (.ifCond .ne 18, 3) := by decide +kernel
theorem dX12_hang_42 : decode cX12_hang 42 = .ok (.aload_n 0, 1) := by decide +kernel
theorem dX12_hang_43 : decode cX12_hang 43 = .ok (.getfield 41, 3) := by decide +kernel
theorem dX12_hang_46 : decode cX12_hang 46 = .ok (.ifCond .ne 19, 3) := by decide +kernel
theorem dX12_hang_65 : decode cX12_hang 65 = .ok (.aload_n 0, 1) := by decide +kernel
theorem dX12_hang_66 : decode cX12_hang 66 = .ok (.getfield 41, 3) := by decide +kernel
theorem dX12_hang_69 : decode cX12_hang 69 = .ok (.ifCond .ne 14, 3) := by decide +kernel
theorem dX12_hang_83 : decode cX12_hang 83 = .ok (.iconst (-1), 1) := by decide +kernel
theorem dX12_hang_84 : decode cX12_hang 84 = .ok (.istore_n 2, 1) := by decide +kernel
theorem dX12_hang_85 : decode cX12_hang 85 = .ok (.aload_n 0, 1) := by decide +kernel
theorem dX12_hang_86 : decode cX12_hang 86 = .ok (.aload_n 0, 1) := by decide +kernel
theorem dX12_hang_87 : decode cX12_hang 87 = .ok (.getfield 807, 3) := by decide +kernel
theorem dX12_hang_90 : decode cX12_hang 90 = .ok (.putfield 1, 3) := by decide +kernel
theorem dX12_hang_93 : decode cX12_hang 93 = .ok (.aload_n 0, 1) := by decide +kernel
theorem dX12_hang_94 : decode cX12_hang 94 = .ok (.getfield 41, 3) := by decide +kernel
theorem dX12_hang_97 : decode cX12_hang 97 = .ok (.ifCond .ne 9, 3) := by decide +kernel
theorem dX12_hang_106 : decode cX12_hang 106 = .ok (.aload_n 0, 1) := by decide +kernel
theorem dX12_hang_107 : decode cX12_hang 107 = .ok (.invokevirtual 840, 3) := by decide +kernel
theorem dX12_hang_110 : decode cX12_hang 110 = .ok (.ireturn, 1) := by decide +kernel
theorem dX12_becomes_0 : decode cX12_becomes 0 = .ok (.aload_n 0, 1) := by decide +kernel
theorem dX12_becomes_1 : decode cX12_becomes 1 = .ok (.getfield 846, 3) := by decide +kernel
theorem dX12_becomes_4 : decode cX12_becomes 4 = .ok (.ifCond .ne 21, 3) := by decide +kernel
theorem dX12_becomes_7 : decode cX12_becomes 7 = .ok (.aload_n 0, 1) := by decide +kernel
theorem dX12_becomes_8 : decode cX12_becomes 8 = .ok (.getfield 713, 3) := by decide +kernel
theorem dX12_becomes_11 : decode cX12_becomes 11 = .ok (.iload_n 1, 1) := by decide +kernel
theorem dX12_becomes_12 : decode cX12_becomes 12 = .ok (.iload_n 2, 1) := by decide +kernel
theorem dX12_becomes_13 : decode cX12_becomes 13 = .ok (.iastore, 1) := by decide +kernel
theorem dX12_becomes_14 : decode cX12_becomes 14 = .ok (.aload_n 0, 1) := by decide +kernel
theorem dX12_becomes_15 : decode cX12_becomes 15 = .ok (.getfield 716, 3) := by decide +kernel
theorem dX12_becomes_18 : decode cX12_becomes 18 = .ok (.iload_n 1, 1) := by decide +kernel
theorem dX12_becomes_19 : decode cX12_becomes 19 = .ok (.bipush (-2), 2) := by decide +kernel
theorem dX12_becomes_21 : decode cX12_becomes 21 = .ok (.iastore, 1) := by decide +kernel
theorem dX12_becomes_22 : decode cX12_becomes 22 = .ok (.goto 10, 3) := by decide +kernel
theorem dX12_becomes_32 : decode cX12_becomes 32 = .ok (.return_, 1) := by decide +kernel
theorem dX12_hush_0 : decode cX12_hush 0 = .ok (.iload_n 1, 1) := by decide +kernel
theorem dX12_hush_1 : decode cX12_hush 1 = .ok (.ifCond .lt 9, 3) := by decide +kernel
theorem dX12_hush_4 : decode cX12_hush 4 = .ok (.iload_n 1, 1) := by decide +kernel
theorem dX12_hush_5 : decode cX12_hush 5 = .ok (.bipush 8, 2) := by decide +kernel
theorem dX12_hush_7 : decode cX12_hush 7 = .ok (.if_icmp .lt 5, 3) := by decide +kernel
theorem dX12_hush_10 : decode cX12_hush 10 = .ok (.iconst 0, 1) := by decide +kernel
theorem dX12_hush_11 : decode cX12_hush 11 = .ok (.ireturn, 1) := by decide +kernel
theorem dX12_hush_12 : decode cX12_hush 12 = .ok (.aload_n 0, 1) := by decide +kernel
theorem dX12_hush_13 : decode cX12_hush 13 = .ok (.iload_n 1, 1) := by decide +kernel
theorem dX12_hush_14 : decode cX12_hush 14 = .ok (.iconst (-1), 1) := by decide +kernel
theorem dX12_hush_15 : decode cX12_hush 15 = .ok (.invokevirtual 843, 3) := by decide +kernel
theorem dX12_hush_18 : decode cX12_hush 18 = .ok (.iconst 1, 1) := by decide +kernel
theorem dX12_hush_19 : decode cX12_hush 19 = .ok (.ireturn, 1) := by decide +kernel
theorem dX12_told_0 : decode cX12_told 0 = .ok (.iload_n 1, 1) := by decide +kernel
theorem dX12_told_1 : decode cX12_told 1 = .ok (.ifCond .ne 10, 3) := by decide +kernel
theorem dX12_told_4 : decode cX12_told 4 = .ok (.aload_n 0, 1) := by decide +kernel
theorem dX12_told_5 : decode cX12_told 5 = .ok (.getfield 726, 3) := by decide +kernel
theorem dX12_told_8 : decode cX12_told 8 = .ok (.goto 28, 3) := by decide +kernel
theorem dX12_told_11 : decode cX12_told 11 = .ok (.iload_n 1, 1) := by decide +kernel
theorem dX12_told_12 : decode cX12_told 12 = .ok (.iconst 1, 1) := by decide +kernel
theorem dX12_told_13 : decode cX12_told 13 = .ok (.if_icmp .ne 10, 3) := by decide +kernel
theorem dX12_told_16 : decode cX12_told 16 = .ok (.aload_n 0, 1) := by decide +kernel
theorem dX12_told_17 : decode cX12_told 17 = .ok (.getfield 729, 3) := by decide +kernel
theorem dX12_told_20 : decode cX12_told 20 = .ok (.goto 16, 3) := by decide +kernel
theorem dX12_told_23 : decode cX12_told 23 = .ok (.iload_n 1, 1) := by decide +kernel
theorem dX12_told_24 : decode cX12_told 24 = .ok (.iconst 2, 1) := by decide +kernel
theorem dX12_told_25 : decode cX12_told 25 = .ok (.if_icmp .ne 10, 3) := by decide +kernel
theorem dX12_told_28 : decode cX12_told 28 = .ok (.aload_n 0, 1) := by decide +kernel
theorem dX12_told_29 : decode cX12_told 29 = .ok (.getfield 732, 3) := by decide +kernel
theorem dX12_told_32 : decode cX12_told 32 = .ok (.goto 4, 3) := by decide +kernel
theorem dX12_told_35 : decode cX12_told 35 = .ok (.iconst (-1), 1) := by decide +kernel
theorem dX12_told_36 : decode cX12_told 36 = .ok (.ireturn, 1) := by decide +kernel
theorem dX12_isTrack_0 : decode cX12_isTrack 0 = .ok (.iload_n 1, 1) := by decide +kernel
theorem dX12_isTrack_1 : decode cX12_isTrack 1 = .ok (.ifCond .lt 13, 3) := by decide +kernel
theorem dX12_isTrack_4 : decode cX12_isTrack 4 = .ok (.iload_n 1, 1) := by decide +kernel
theorem dX12_isTrack_5 : decode cX12_isTrack 5 = .ok (.bipush 8, 2) := by decide +kernel
theorem dX12_isTrack_7 : decode cX12_isTrack 7 = .ok (.if_icmp .ge 7, 3) := by decide +kernel
theorem dX12_isTrack_10 : decode cX12_isTrack 10 = .ok (.iconst 1, 1) := by decide +kernel
theorem dX12_isTrack_11 : decode cX12_isTrack 11 = .ok (.goto 4, 3) := by decide +kernel
theorem dX12_isTrack_14 : decode cX12_isTrack 14 = .ok (.iconst 0, 1) := by decide +kernel
theorem dX12_isTrack_15 : decode cX12_isTrack 15 = .ok (.ireturn, 1) := by decide +kernel
theorem dX12_bound_0 : decode cX12_bound 0 = .ok (.aload_n 0, 1) := by decide +kernel
theorem dX12_bound_1 : decode cX12_bound 1 = .ok (.iload_n 1, 1) := by decide +kernel
theorem dX12_bound_2 : decode cX12_bound 2 = .ok (.invokevirtual 849, 3) := by decide +kernel
theorem dX12_bound_5 : decode cX12_bound 5 = .ok (.ifCond .ne 5, 3) := by decide +kernel
theorem dX12_bound_8 : decode cX12_bound 8 = .ok (.iconst (-1), 1) := by decide +kernel
theorem dX12_bound_9 : decode cX12_bound 9 = .ok (.ireturn, 1) := by decide +kernel
theorem dX12_bound_10 : decode cX12_bound 10 = .ok (.aload_n 0, 1) := by decide +kernel
theorem dX12_bound_11 : decode cX12_bound 11 = .ok (.getfield 713, 3) := by decide +kernel
theorem dX12_bound_14 : decode cX12_bound 14 = .ok (.iload_n 1, 1) := by decide +kernel
theorem dX12_bound_15 : decode cX12_bound 15 = .ok (.iaload, 1) := by decide +kernel
theorem dX12_bound_16 : decode cX12_bound 16 = .ok (.istore_n 3, 1) := by decide +kernel
theorem dX12_bound_17 : decode cX12_bound 17 = .ok (.iload_n 3, 1) := by decide +kernel
theorem dX12_bound_18 : decode cX12_bound 18 = .ok (.iconst (-1), 1) := by decide +kernel
theorem dX12_bound_19 : decode cX12_bound 19 = .ok (.if_icmp .ne 5, 3) := by decide +kernel
theorem dX12_bound_22 : decode cX12_bound 22 = .ok (.iconst (-1), 1) := by decide +kernel
theorem dX12_bound_23 : decode cX12_bound 23 = .ok (.ireturn, 1) := by decide +kernel
theorem dX12_ask_0 : decode cX12_ask 0 = .ok (.aload_n 0, 1) := by decide +kernel
theorem dX12_ask_1 : decode cX12_ask 1 = .ok (.iload_n 1, 1) := by decide +kernel
theorem dX12_ask_2 : decode cX12_ask 2 = .ok (.invokevirtual 849, 3) := by decide +kernel
theorem dX12_ask_5 : decode cX12_ask 5 = .ok (.ifCond .eq 17, 3) := by decide +kernel
theorem dX12_ask_8 : decode cX12_ask 8 = .ok (.iload_n 2, 1) := by decide +kernel
theorem dX12_ask_9 : decode cX12_ask 9 = .ok (.sipush (-1000), 3) := by decide +kernel
theorem dX12_ask_12 : decode cX12_ask 12 = .ok (.if_icmp .lt 10, 3) := by decide +kernel
theorem dX12_ask_15 : decode cX12_ask 15 = .ok (.iload_n 2, 1) := by decide +kernel
theorem dX12_ask_16 : decode cX12_ask 16 = .ok (.ldc_w 852, 3) := by decide +kernel
theorem dX12_ask_19 : decode cX12_ask 19 = .ok (.if_icmp .le 5, 3) := by decide +kernel
theorem dX12_ask_22 : decode cX12_ask 22 = .ok (.iconst (-1), 1) := by decide +kernel
theorem dX12_ask_23 : decode cX12_ask 23 = .ok (.ireturn, 1) := by decide +kernel
theorem dX12_ask_24 : decode cX12_ask 24 = .ok (.aload_n 0, 1) := by decide +kernel
theorem dX12_ask_25 : decode cX12_ask 25 = .ok (.getfield 713, 3) := by decide +kernel
theorem dX12_ask_28 : decode cX12_ask 28 = .ok (.iload_n 1, 1) := by decide +kernel
theorem dX12_ask_29 : decode cX12_ask 29 = .ok (.iaload, 1) := by decide +kernel
theorem dX12_ask_30 : decode cX12_ask 30 = .ok (.istore_n 3, 1) := by decide +kernel
theorem dX12_ask_31 : decode cX12_ask 31 = .ok (.iload_n 3, 1) := by decide +kernel
theorem dX12_ask_32 : decode cX12_ask 32 = .ok (.iconst (-1), 1) := by decide +kernel
theorem dX12_ask_33 : decode cX12_ask 33 = .ok (.if_icmp .ne 5, 3) := by decide +kernel
theorem dX12_ask_36 : decode cX12_ask 36 = .ok (.iconst (-1), 1) := by decide +kernel
theorem dX12_ask_37 : decode cX12_ask 37 = .ok (.ireturn, 1) := by decide +kernel
theorem dX12_event_0 : decode cX12_event 0 = .ok (.iload_n 1, 1) := by decide +kernel
theorem dX12_event_1 : decode cX12_event 1 = .ok (.ifCond .lt 11, 3) := by decide +kernel
theorem dX12_event_4 : decode cX12_event 4 = .ok (.iload_n 1, 1) := by decide +kernel
theorem dX12_event_5 : decode cX12_event 5 = .ok (.aload_n 0, 1) := by decide +kernel
theorem dX12_event_6 : decode cX12_event 6 = .ok (.getfield 856, 3) := by decide +kernel
theorem dX12_event_9 : decode cX12_event 9 = .ok (.if_icmp .lt 5, 3) := by decide +kernel
theorem dX12_event_12 : decode cX12_event 12 = .ok (.iconst (-1), 1) := by decide +kernel
theorem dX12_event_13 : decode cX12_event 13 = .ok (.ireturn, 1) := by decide +kernel
theorem dX12_letter_0 : decode cX12_letter 0 = .ok (.iload_n 1, 1) := by decide +kernel
theorem dX12_letter_1 : decode cX12_letter 1 = .ok (.ifCond .lt 11, 3) := by decide +kernel
theorem dX12_letter_4 : decode cX12_letter 4 = .ok (.iload_n 1, 1) := by decide +kernel
theorem dX12_letter_5 : decode cX12_letter 5 = .ok (.aload_n 0, 1) := by decide +kernel
theorem dX12_letter_6 : decode cX12_letter 6 = .ok (.getfield 856, 3) := by decide +kernel
theorem dX12_letter_9 : decode cX12_letter 9 = .ok (.if_icmp .lt 7, 3) := by decide +kernel
theorem dX12_letter_12 : decode cX12_letter 12 = .ok (.iconst (-1), 1) := by decide +kernel
theorem dX12_letter_13 : decode cX12_letter 13 = .ok (.goto 19, 3) := by decide +kernel
theorem dX12_letter_32 : decode cX12_letter 32 = .ok (.ireturn, 1) := by decide +kernel
theorem dX12_swaps_0 : decode cX12_swaps 0 = .ok (.iconst 0, 1) := by decide +kernel
theorem dX12_swaps_1 : decode cX12_swaps 1 = .ok (.istore_n 1, 1) := by decide +kernel
theorem dX12_swaps_2 : decode cX12_swaps 2 = .ok (.iload_n 1, 1) := by decide +kernel
theorem dX12_swaps_3 : decode cX12_swaps 3 = .ok (.bipush 8, 2) := by decide +kernel
theorem dX12_swaps_5 : decode cX12_swaps 5 = .ok (.if_icmp .ge 43, 3) := by decide +kernel
theorem dX12_swaps_8 : decode cX12_swaps 8 = .ok (.aload_n 0, 1) := by decide +kernel
theorem dX12_swaps_9 : decode cX12_swaps 9 = .ok (.getfield 716, 3) := by decide +kernel
theorem dX12_swaps_12 : decode cX12_swaps 12 = .ok (.iload_n 1, 1) := by decide +kernel
theorem dX12_swaps_13 : decode cX12_swaps 13 = .ok (.iaload, 1) := by decide +kernel
theorem dX12_swaps_14 : decode cX12_swaps 14 = .ok (.bipush (-2), 2) := by decide +kernel
theorem dX12_swaps_16 : decode cX12_swaps 16 = .ok (.if_icmp .ne 6, 3) := by decide +kernel
theorem dX12_swaps_19 : decode cX12_swaps 19 = .ok (.goto 23, 3) := by decide +kernel
theorem dX12_swaps_42 : decode cX12_swaps 42 = .ok (.iinc 1 1, 3) := by decide +kernel
theorem dX12_swaps_45 : decode cX12_swaps 45 = .ok (.goto (-43), 3) := by decide +kernel
theorem dX12_swaps_48 : decode cX12_swaps 48 = .ok (.return_, 1) := by decide +kernel
theorem dX12_beat_0 : decode cX12_beat 0 = .ok (.aload_n 0, 1) := by decide +kernel
theorem dX12_beat_1 : decode cX12_beat 1 = .ok (.iconst 0, 1) := by decide +kernel
theorem dX12_beat_2 : decode cX12_beat 2 = .ok (.putfield 873, 3) := by decide +kernel
theorem dX12_beat_5 : decode cX12_beat 5 = .ok (.iconst 0, 1) := by decide +kernel
theorem dX12_beat_6 : decode cX12_beat 6 = .ok (.istore_n 3, 1) := by decide +kernel
theorem dX12_beat_7 : decode cX12_beat 7 = .ok (.iload_n 3, 1) := by decide +kernel
theorem dX12_beat_8 : decode cX12_beat 8 = .ok (.bipush 8, 2) := by decide +kernel
theorem dX12_beat_10 : decode cX12_beat 10 = .ok (.if_icmp .ge 271, 3) := by decide +kernel
theorem dX12_beat_13 : decode cX12_beat 13 = .ok (.aload_n 0, 1) := by decide +kernel
theorem dX12_beat_14 : decode cX12_beat 14 = .ok (.getfield 713, 3) := by decide +kernel
theorem dX12_beat_17 : decode cX12_beat 17 = .ok (.iload_n 3, 1) := by decide +kernel
theorem dX12_beat_18 : decode cX12_beat 18 = .ok (.iaload, 1) := by decide +kernel
theorem dX12_beat_19 : decode cX12_beat 19 = .ok (.iconst (-1), 1) := by decide +kernel
theorem dX12_beat_20 : decode cX12_beat 20 = .ok (.if_icmp .eq 255, 3) := by decide +kernel
theorem dX12_beat_275 : decode cX12_beat 275 = .ok (.iinc 3 1, 3) := by decide +kernel
theorem dX12_beat_278 : decode cX12_beat 278 = .ok (.goto (-271), 3) := by decide +kernel
theorem dX12_beat_281 : decode cX12_beat 281 = .ok (.aload_n 0, 1) := by decide +kernel
theorem dX12_beat_282 : decode cX12_beat 282 = .ok (.invokevirtual 884, 3) := by decide +kernel
theorem dX12_beat_285 : decode cX12_beat 285 = .ok (.iconst 0, 1) := by decide +kernel
theorem dX12_beat_286 : decode cX12_beat 286 = .ok (.istore_n 3, 1) := by decide +kernel
theorem dX12_beat_287 : decode cX12_beat 287 = .ok (.iload_n 3, 1) := by decide +kernel
theorem dX12_beat_288 : decode cX12_beat 288 = .ok (.aload_n 0, 1) := by decide +kernel
theorem dX12_beat_289 : decode cX12_beat 289 = .ok (.getfield 873, 3) := by decide +kernel
theorem dX12_beat_292 : decode cX12_beat 292 = .ok (.if_icmp .ge 29, 3) := by decide +kernel
theorem dX12_beat_321 : decode cX12_beat 321 = .ok (.aload_n 0, 1) := by decide +kernel
theorem dX12_beat_322 : decode cX12_beat 322 = .ok (.getfield 873, 3) := by decide +kernel
theorem dX12_beat_325 : decode cX12_beat 325 = .ok (.ireturn, 1) := by decide +kernel
theorem dX12_arrange_0 : decode cX12_arrange 0 = .ok (.iconst 0, 1) := by decide +kernel
theorem dX12_arrange_1 : decode cX12_arrange 1 = .ok (.istore_n 1, 1) := by decide +kernel
theorem dX12_arrange_2 : decode cX12_arrange 2 = .ok (.iload_n 1, 1) := by decide +kernel
theorem dX12_arrange_3 : decode cX12_arrange 3 = .ok (.aload_n 0, 1) := by decide +kernel
theorem dX12_arrange_4 : decode cX12_arrange 4 = .ok (.getfield 873, 3) := by decide +kernel
theorem dX12_arrange_7 : decode cX12_arrange 7 = .ok (.if_icmp .ge 88, 3) := by decide +kernel
theorem dX12_arrange_95 : decode cX12_arrange 95 = .ok (.return_, 1) := by decide +kernel
theorem dX12_play_0 : decode cX12_play 0 = .ok (.iload_n 1, 1) := by decide +kernel
theorem dX12_play_1 : decode cX12_play 1 = .ok (.iconst 1, 1) := by decide +kernel
theorem dX12_play_2 : decode cX12_play 2 = .ok (.if_icmp .lt 10, 3) := by decide +kernel
theorem dX12_play_5 : decode cX12_play 5 = .ok (.iload_n 1, 1) := by decide +kernel
theorem dX12_play_6 : decode cX12_play 6 = .ok (.sipush 3840, 3) := by decide +kernel
theorem dX12_play_9 : decode cX12_play 9 = .ok (.if_icmp .le 5, 3) := by decide +kernel
theorem dX12_play_12 : decode cX12_play 12 = .ok (.iconst (-1), 1) := by decide +kernel
theorem dX12_play_13 : decode cX12_play 13 = .ok (.ireturn, 1) := by decide +kernel
theorem dX12_play_14 : decode cX12_play 14 = .ok (.aload_n 0, 1) := by decide +kernel
theorem dX12_play_15 : decode cX12_play 15 = .ok (.getfield 879, 3) := by decide +kernel
theorem dX12_play_18 : decode cX12_play 18 = .ok (.i2l, 1) := by decide +kernel
theorem dX12_play_19 : decode cX12_play 19 = .ok (.ldc2_w 882, 3) := by decide +kernel
theorem dX12_play_22 : decode cX12_play 22 = .ok (.lmul, 1) := by decide +kernel
theorem dX12_play_23 : decode cX12_play 23 = .ok (.aload_n 0, 1) := by decide +kernel
theorem dX12_play_24 : decode cX12_play 24 = .ok (.getfield 846, 3) := by decide +kernel
theorem dX12_play_27 : decode cX12_play 27 = .ok (.i2l, 1) := by decide +kernel
theorem dX12_play_28 : decode cX12_play 28 = .ok (.ladd, 1) := by decide +kernel
theorem dX12_play_29 : decode cX12_play 29 = .ok (.iload_n 1, 1) := by decide +kernel
theorem dX12_play_30 : decode cX12_play 30 = .ok (.i2l, 1) := by decide +kernel
theorem dX12_play_31 : decode cX12_play 31 = .ok (.ladd, 1) := by decide +kernel
theorem dX12_play_32 : decode cX12_play 32 = .ok (.lstore_n 2, 1) := by decide +kernel
theorem dX12_play_33 : decode cX12_play 33 = .ok (.lload_n 2, 1) := by decide +kernel
theorem dX12_play_34 : decode cX12_play 34 = .ok (.ldc2_w 893, 3) := by decide +kernel
theorem dX12_play_37 : decode cX12_play 37 = .ok (.lcmp, 1) := by decide +kernel
theorem dX12_play_38 : decode cX12_play 38 = .ok (.ifCond .le 5, 3) := by decide +kernel
theorem dX12_play_43 : decode cX12_play 43 = .ok (.aload_n 0, 1) := by decide +kernel
theorem dX12_play_44 : decode cX12_play 44 = .ok (.iconst 0, 1) := by decide +kernel
theorem dX12_play_45 : decode cX12_play 45 = .ok (.putfield 887, 3) := by decide +kernel
theorem dX12_play_48 : decode cX12_play 48 = .ok (.iload_n 1, 1) := by decide +kernel
theorem dX12_play_49 : decode cX12_play 49 = .ok (.istore 4, 2) := by decide +kernel
theorem dX12_play_51 : decode cX12_play 51 = .ok (.iconst 0, 1) := by decide +kernel
theorem dX12_play_52 : decode cX12_play 52 = .ok (.istore 5, 2) := by decide +kernel
theorem dX12_play_54 : decode cX12_play 54 = .ok (.iload 4, 2) := by decide +kernel
theorem dX12_play_56 : decode cX12_play 56 = .ok (.ifCond .le 104, 3) := by decide +kernel
theorem dX12_play_59 : decode cX12_play 59 = .ok (.iload 4, 2) := by decide +kernel
theorem dX12_play_61 : decode cX12_play 61 = .ok (.sipush 960, 3) := by decide +kernel
theorem dX12_play_64 : decode cX12_play 64 = .ok (.aload_n 0, 1) := by decide +kernel
theorem dX12_play_65 : decode cX12_play 65 = .ok (.getfield 846, 3) := by decide +kernel
theorem dX12_play_68 : decode cX12_play 68 = .ok (.isub, 1) := by decide +kernel
theorem dX12_play_69 : decode cX12_play 69 = .ok (.if_icmp .ge 8, 3) := by decide +kernel
theorem dX12_play_72 : decode cX12_play 72 = .ok (.iload 4, 2) := by decide +kernel
theorem dX12_play_74 : decode cX12_play 74 = .ok (.goto 11, 3) := by decide +kernel
theorem dX12_play_77 : decode cX12_play 77 = .ok (.sipush 960, 3) := by decide +kernel
theorem dX12_play_80 : decode cX12_play 80 = .ok (.aload_n 0, 1) := by decide +kernel
theorem dX12_play_81 : decode cX12_play 81 = .ok (.getfield 846, 3) := by decide +kernel
theorem dX12_play_84 : decode cX12_play 84 = .ok (.isub, 1) := by decide +kernel
theorem dX12_play_85 : decode cX12_play 85 = .ok (.istore 6, 2) := by decide +kernel
theorem dX12_play_87 : decode cX12_play 87 = .ok (.iload 5, 2) := by decide +kernel
theorem dX12_play_89 : decode cX12_play 89 = .ok (.aload_n 0, 1) := by decide +kernel
theorem dX12_play_90 : decode cX12_play 90 = .ok (.aload_n 0, 1) := by decide +kernel
theorem dX12_play_91 : decode cX12_play 91 = .ok (.getfield 846, 3) := by decide +kernel
theorem dX12_play_94 : decode cX12_play 94 = .ok (.aload_n 0, 1) := by decide +kernel
theorem dX12_play_95 : decode cX12_play 95 = .ok (.getfield 846, 3) := by decide +kernel
theorem dX12_play_98 : decode cX12_play 98 = .ok (.iload 6, 2) := by decide +kernel
theorem dX12_play_100 : decode cX12_play 100 = .ok (.iadd, 1) := by decide +kernel
theorem dX12_play_101 : decode cX12_play 101 = .ok (.invokevirtual 895, 3) := by decide +kernel
theorem dX12_play_104 : decode cX12_play 104 = .ok (.iadd, 1) := by decide +kernel
theorem dX12_play_105 : decode cX12_play 105 = .ok (.istore 5, 2) := by decide +kernel
theorem dX12_play_107 : decode cX12_play 107 = .ok (.aload_n 0, 1) := by decide +kernel
theorem dX12_play_108 : decode cX12_play 108 = .ok (.dup, 1) := by decide +kernel
theorem dX12_play_109 : decode cX12_play 109 = .ok (.getfield 846, 3) := by decide +kernel
theorem dX12_play_112 : decode cX12_play 112 = .ok (.iload 6, 2) := by decide +kernel
theorem dX12_play_114 : decode cX12_play 114 = .ok (.iadd, 1) := by decide +kernel
theorem dX12_play_115 : decode cX12_play 115 = .ok (.putfield 846, 3) := by decide +kernel
theorem dX12_play_118 : decode cX12_play 118 = .ok (.iload 4, 2) := by decide +kernel
theorem dX12_play_120 : decode cX12_play 120 = .ok (.iload 6, 2) := by decide +kernel
theorem dX12_play_122 : decode cX12_play 122 = .ok (.isub, 1) := by decide +kernel
theorem dX12_play_123 : decode cX12_play 123 = .ok (.istore 4, 2) := by decide +kernel
theorem dX12_play_125 : decode cX12_play 125 = .ok (.aload_n 0, 1) := by decide +kernel
theorem dX12_play_126 : decode cX12_play 126 = .ok (.getfield 846, 3) := by decide +kernel
theorem dX12_play_129 : decode cX12_play 129 = .ok (.sipush 960, 3) := by decide +kernel
theorem dX12_play_132 : decode cX12_play 132 = .ok (.if_icmp .ge 6, 3) := by decide +kernel
theorem dX12_play_135 : decode cX12_play 135 = .ok (.goto (-81), 3) := by decide +kernel
theorem dX12_play_138 : decode cX12_play 138 = .ok (.aload_n 0, 1) := by decide +kernel
theorem dX12_play_139 : decode cX12_play 139 = .ok (.iconst 0, 1) := by decide +kernel
theorem dX12_play_140 : decode cX12_play 140 = .ok (.putfield 846, 3) := by decide +kernel
theorem dX12_play_143 : decode cX12_play 143 = .ok (.aload_n 0, 1) := by decide +kernel
theorem dX12_play_144 : decode cX12_play 144 = .ok (.dup, 1) := by decide +kernel
theorem dX12_play_145 : decode cX12_play 145 = .ok (.getfield 879, 3) := by decide +kernel
theorem dX12_play_148 : decode cX12_play 148 = .ok (.iconst 1, 1) := by decide +kernel
theorem dX12_play_149 : decode cX12_play 149 = .ok (.iadd, 1) := by decide +kernel
theorem dX12_play_150 : decode cX12_play 150 = .ok (.putfield 879, 3) := by decide +kernel
theorem dX12_play_153 : decode cX12_play 153 = .ok (.aload_n 0, 1) := by decide +kernel
theorem dX12_play_154 : decode cX12_play 154 = .ok (.invokevirtual 898, 3) := by decide +kernel
theorem dX12_play_157 : decode cX12_play 157 = .ok (.goto (-103), 3) := by decide +kernel
theorem dX12_play_160 : decode cX12_play 160 = .ok (.aload_n 0, 1) := by decide +kernel
theorem dX12_play_161 : decode cX12_play 161 = .ok (.dup, 1) := by decide +kernel
theorem dX12_play_162 : decode cX12_play 162 = .ok (.getfield 901, 3) := by decide +kernel
theorem dX12_play_165 : decode cX12_play 165 = .ok (.iload 5, 2) := by decide +kernel
theorem dX12_play_167 : decode cX12_play 167 = .ok (.iadd, 1) := by decide +kernel
theorem dX12_play_168 : decode cX12_play 168 = .ok (.putfield 901, 3) := by decide +kernel
theorem dX12_play_171 : decode cX12_play 171 = .ok (.iload 5, 2) := by decide +kernel
theorem dX12_play_173 : decode cX12_play 173 = .ok (.ireturn, 1) := by decide +kernel
theorem dX12_heard_0 : decode cX12_heard 0 = .ok (.iload_n 1, 1) := by decide +kernel
theorem dX12_heard_1 : decode cX12_heard 1 = .ok (.ifCond .lt 11, 3) := by decide +kernel
theorem dX12_heard_4 : decode cX12_heard 4 = .ok (.iload_n 1, 1) := by decide +kernel
theorem dX12_heard_5 : decode cX12_heard 5 = .ok (.aload_n 0, 1) := by decide +kernel
theorem dX12_heard_6 : decode cX12_heard 6 = .ok (.getfield 887, 3) := by decide +kernel
theorem dX12_heard_9 : decode cX12_heard 9 = .ok (.if_icmp .lt 5, 3) := by decide +kernel
theorem dX12_heard_12 : decode cX12_heard 12 = .ok (.iconst (-1), 1) := by decide +kernel
theorem dX12_heard_13 : decode cX12_heard 13 = .ok (.ireturn, 1) := by decide +kernel
theorem dX12_heardLetter_0 : decode cX12_heardLetter 0 = .ok (.iload_n 1, 1) := by decide +kernel
theorem dX12_heardLetter_1 : decode cX12_heardLetter 1 = .ok (.ifCond .lt 11, 3) := by decide +kernel
theorem dX12_heardLetter_4 : decode cX12_heardLetter 4 = .ok (.iload_n 1, 1) := by decide +kernel
theorem dX12_heardLetter_5 : decode cX12_heardLetter 5 = .ok (.aload_n 0, 1) := by decide +kernel
theorem dX12_heardLetter_6 : decode cX12_heardLetter 6 = .ok (.getfield 887, 3) := by decide +kernel
theorem dX12_heardLetter_9 : decode cX12_heardLetter 9 = .ok (.if_icmp .lt 7, 3) := by decide +kernel
theorem dX12_heardLetter_12 : decode cX12_heardLetter 12 = .ok (.iconst (-1), 1) := by decide +kernel
theorem dX12_heardLetter_13 : decode cX12_heardLetter 13 = .ok (.goto 19, 3) := by decide +kernel
theorem dX12_heardLetter_32 : decode cX12_heardLetter 32 = .ok (.ireturn, 1) := by decide +kernel
theorem dX12_jump_0 : decode cX12_jump 0 = .ok (.iload_n 1, 1) := by decide +kernel
theorem dX12_jump_1 : decode cX12_jump 1 = .ok (.ifCond .lt 10, 3) := by decide +kernel
theorem dX12_jump_4 : decode cX12_jump 4 = .ok (.iload_n 1, 1) := by decide +kernel
theorem dX12_jump_5 : decode cX12_jump 5 = .ok (.ldc_w 852, 3) := by decide +kernel
theorem dX12_jump_8 : decode cX12_jump 8 = .ok (.if_icmp .lt 5, 3) := by decide +kernel
theorem dX12_jump_11 : decode cX12_jump 11 = .ok (.iconst 0, 1) := by decide +kernel
theorem dX12_jump_12 : decode cX12_jump 12 = .ok (.ireturn, 1) := by decide +kernel
theorem dX12_jump_13 : decode cX12_jump 13 = .ok (.aload_n 0, 1) := by decide +kernel
theorem dX12_jump_14 : decode cX12_jump 14 = .ok (.iload_n 1, 1) := by decide +kernel
theorem dX12_jump_15 : decode cX12_jump 15 = .ok (.putfield 879, 3) := by decide +kernel
theorem dX12_jump_18 : decode cX12_jump 18 = .ok (.aload_n 0, 1) := by decide +kernel
theorem dX12_jump_19 : decode cX12_jump 19 = .ok (.iconst 0, 1) := by decide +kernel
theorem dX12_jump_20 : decode cX12_jump 20 = .ok (.putfield 846, 3) := by decide +kernel
theorem dX12_jump_23 : decode cX12_jump 23 = .ok (.aload_n 0, 1) := by decide +kernel
theorem dX12_jump_24 : decode cX12_jump 24 = .ok (.invokevirtual 898, 3) := by decide +kernel
theorem dX12_jump_27 : decode cX12_jump 27 = .ok (.iconst 1, 1) := by decide +kernel
theorem dX12_jump_28 : decode cX12_jump 28 = .ok (.ireturn, 1) := by decide +kernel
theorem dX12_mute_0 : decode cX12_mute 0 = .ok (.aload_n 0, 1) := by decide +kernel
theorem dX12_mute_1 : decode cX12_mute 1 = .ok (.iload_n 1, 1) := by decide +kernel
theorem dX12_mute_2 : decode cX12_mute 2 = .ok (.invokevirtual 849, 3) := by decide +kernel
theorem dX12_mute_5 : decode cX12_mute 5 = .ok (.ifCond .ne 5, 3) := by decide +kernel
theorem dX12_mute_8 : decode cX12_mute 8 = .ok (.iconst 0, 1) := by decide +kernel
theorem dX12_mute_9 : decode cX12_mute 9 = .ok (.ireturn, 1) := by decide +kernel
theorem dX12_mute_10 : decode cX12_mute 10 = .ok (.aload_n 0, 1) := by decide +kernel
theorem dX12_mute_11 : decode cX12_mute 11 = .ok (.getfield 719, 3) := by decide +kernel
theorem dX12_mute_14 : decode cX12_mute 14 = .ok (.iload_n 1, 1) := by decide +kernel
theorem dX12_mute_15 : decode cX12_mute 15 = .ok (.baload, 1) := by decide +kernel
theorem dX12_mute_16 : decode cX12_mute 16 = .ok (.istore_n 3, 1) := by decide +kernel
theorem dX12_mute_17 : decode cX12_mute 17 = .ok (.aload_n 0, 1) := by decide +kernel
theorem dX12_mute_18 : decode cX12_mute 18 = .ok (.getfield 719, 3) := by decide +kernel
theorem dX12_mute_21 : decode cX12_mute 21 = .ok (.iload_n 1, 1) := by decide +kernel
theorem dX12_mute_22 : decode cX12_mute 22 = .ok (.iload_n 2, 1) := by decide +kernel
theorem dX12_mute_23 : decode cX12_mute 23 = .ok (.bastore, 1) := by decide +kernel
theorem dX12_mute_24 : decode cX12_mute 24 = .ok (.iload_n 3, 1) := by decide +kernel
theorem dX12_mute_25 : decode cX12_mute 25 = .ok (.ireturn, 1) := by decide +kernel
theorem dX12_solo_0 : decode cX12_solo 0 = .ok (.aload_n 0, 1) := by decide +kernel
theorem dX12_solo_1 : decode cX12_solo 1 = .ok (.iload_n 1, 1) := by decide +kernel
theorem dX12_solo_2 : decode cX12_solo 2 = .ok (.invokevirtual 849, 3) := by decide +kernel
theorem dX12_solo_5 : decode cX12_solo 5 = .ok (.ifCond .ne 5, 3) := by decide +kernel
theorem dX12_solo_8 : decode cX12_solo 8 = .ok (.iconst 0, 1) := by decide +kernel
theorem dX12_solo_9 : decode cX12_solo 9 = .ok (.ireturn, 1) := by decide +kernel
theorem dX12_solo_10 : decode cX12_solo 10 = .ok (.aload_n 0, 1) := by decide +kernel
theorem dX12_solo_11 : decode cX12_solo 11 = .ok (.getfield 723, 3) := by decide +kernel
theorem dX12_solo_14 : decode cX12_solo 14 = .ok (.iload_n 1, 1) := by decide +kernel
theorem dX12_solo_15 : decode cX12_solo 15 = .ok (.baload, 1) := by decide +kernel
theorem dX12_solo_16 : decode cX12_solo 16 = .ok (.istore_n 3, 1) := by decide +kernel
theorem dX12_solo_17 : decode cX12_solo 17 = .ok (.aload_n 0, 1) := by decide +kernel
theorem dX12_solo_18 : decode cX12_solo 18 = .ok (.getfield 723, 3) := by decide +kernel
theorem dX12_solo_21 : decode cX12_solo 21 = .ok (.iload_n 1, 1) := by decide +kernel
theorem dX12_solo_22 : decode cX12_solo 22 = .ok (.iload_n 2, 1) := by decide +kernel
theorem dX12_solo_23 : decode cX12_solo 23 = .ok (.bastore, 1) := by decide +kernel
theorem dX12_solo_24 : decode cX12_solo 24 = .ok (.iload_n 3, 1) := by decide +kernel
theorem dX12_solo_25 : decode cX12_solo 25 = .ok (.ireturn, 1) := by decide +kernel
theorem dX12_seed_0 : decode cX12_seed 0 = .ok (.aload_n 0, 1) := by decide +kernel
theorem dX12_seed_1 : decode cX12_seed 1 = .ok (.iload_n 1, 1) := by decide +kernel
theorem dX12_seed_2 : decode cX12_seed 2 = .ok (.putfield 678, 3) := by decide +kernel
theorem dX12_seed_5 : decode cX12_seed 5 = .ok (.return_, 1) := by decide +kernel
theorem dX12_about_0 : decode cX12_about 0 = .ok (.iconst 0, 1) := by decide +kernel
theorem dX12_about_1 : decode cX12_about 1 = .ok (.istore_n 2, 1) := by decide +kernel
theorem dX12_about_2 : decode cX12_about 2 = .ok (.iload_n 1, 1) := by decide +kernel
theorem dX12_about_3 : decode cX12_about 3 = .ok (.tableswitch 135 0 6 #[41, 46, 51, 56, 90, 125, 130], 41) := by decide +kernel
theorem dX12_about_44 : decode cX12_about 44 = .ok (.aload_n 0, 1) := by decide +kernel
theorem dX12_about_45 : decode cX12_about 45 = .ok (.getfield 879, 3) := by decide +kernel
theorem dX12_about_48 : decode cX12_about 48 = .ok (.ireturn, 1) := by decide +kernel
theorem dX12_about_49 : decode cX12_about 49 = .ok (.aload_n 0, 1) := by decide +kernel
theorem dX12_about_50 : decode cX12_about 50 = .ok (.getfield 846, 3) := by decide +kernel
theorem dX12_about_53 : decode cX12_about 53 = .ok (.ireturn, 1) := by decide +kernel
theorem dX12_about_54 : decode cX12_about 54 = .ok (.aload_n 0, 1) := by decide +kernel
theorem dX12_about_55 : decode cX12_about 55 = .ok (.getfield 822, 3) := by decide +kernel
theorem dX12_about_58 : decode cX12_about 58 = .ok (.ireturn, 1) := by decide +kernel
theorem dX12_about_59 : decode cX12_about 59 = .ok (.iconst 0, 1) := by decide +kernel
theorem dX12_about_60 : decode cX12_about 60 = .ok (.istore_n 3, 1) := by decide +kernel
theorem dX12_about_61 : decode cX12_about 61 = .ok (.iload_n 3, 1) := by decide +kernel
theorem dX12_about_62 : decode cX12_about 62 = .ok (.bipush 8, 2) := by decide +kernel
theorem dX12_about_64 : decode cX12_about 64 = .ok (.if_icmp .ge 27, 3) := by decide +kernel
theorem dX12_about_67 : decode cX12_about 67 = .ok (.iload_n 2, 1) := by decide +kernel
theorem dX12_about_68 : decode cX12_about 68 = .ok (.aload_n 0, 1) := by decide +kernel
theorem dX12_about_69 : decode cX12_about 69 = .ok (.getfield 713, 3) := by decide +kernel
theorem dX12_about_72 : decode cX12_about 72 = .ok (.iload_n 3, 1) := by decide +kernel
theorem dX12_about_73 : decode cX12_about 73 = .ok (.iaload, 1) := by decide +kernel
theorem dX12_about_74 : decode cX12_about 74 = .ok (.iconst (-1), 1) := by decide +kernel
theorem dX12_about_75 : decode cX12_about 75 = .ok (.if_icmp .ne 7, 3) := by decide +kernel
theorem dX12_about_78 : decode cX12_about 78 = .ok (.iconst 0, 1) := by decide +kernel
theorem dX12_about_79 : decode cX12_about 79 = .ok (.goto 4, 3) := by decide +kernel
theorem dX12_about_83 : decode cX12_about 83 = .ok (.iadd, 1) := by decide +kernel
theorem dX12_about_84 : decode cX12_about 84 = .ok (.istore_n 2, 1) := by decide +kernel
theorem dX12_about_85 : decode cX12_about 85 = .ok (.iinc 3 1, 3) := by decide +kernel
theorem dX12_about_88 : decode cX12_about 88 = .ok (.goto (-27), 3) := by decide +kernel
theorem dX12_about_91 : decode cX12_about 91 = .ok (.iload_n 2, 1) := by decide +kernel
theorem dX12_about_92 : decode cX12_about 92 = .ok (.ireturn, 1) := by decide +kernel
theorem dX12_about_93 : decode cX12_about 93 = .ok (.iconst 0, 1) := by decide +kernel
theorem dX12_about_94 : decode cX12_about 94 = .ok (.istore_n 3, 1) := by decide +kernel
theorem dX12_about_95 : decode cX12_about 95 = .ok (.iload_n 3, 1) := by decide +kernel
theorem dX12_about_96 : decode cX12_about 96 = .ok (.bipush 8, 2) := by decide +kernel
theorem dX12_about_98 : decode cX12_about 98 = .ok (.if_icmp .ge 28, 3) := by decide +kernel
theorem dX12_about_101 : decode cX12_about 101 = .ok (.iload_n 2, 1) := by decide +kernel
theorem dX12_about_102 : decode cX12_about 102 = .ok (.aload_n 0, 1) := by decide +kernel
theorem dX12_about_103 : decode cX12_about 103 = .ok (.getfield 716, 3) := by decide +kernel
theorem dX12_about_106 : decode cX12_about 106 = .ok (.iload_n 3, 1) := by decide +kernel
theorem dX12_about_107 : decode cX12_about 107 = .ok (.iaload, 1) := by decide +kernel
theorem dX12_about_108 : decode cX12_about 108 = .ok (.bipush (-2), 2) := by decide +kernel
theorem dX12_about_110 : decode cX12_about 110 = .ok (.if_icmp .ne 7, 3) := by decide +kernel
theorem dX12_about_113 : decode cX12_about 113 = .ok (.iconst 0, 1) := by decide +kernel
theorem dX12_about_114 : decode cX12_about 114 = .ok (.goto 4, 3) := by decide +kernel
theorem dX12_about_118 : decode cX12_about 118 = .ok (.iadd, 1) := by decide +kernel
theorem dX12_about_119 : decode cX12_about 119 = .ok (.istore_n 2, 1) := by decide +kernel
theorem dX12_about_120 : decode cX12_about 120 = .ok (.iinc 3 1, 3) := by decide +kernel
theorem dX12_about_123 : decode cX12_about 123 = .ok (.goto (-28), 3) := by decide +kernel
theorem dX12_about_126 : decode cX12_about 126 = .ok (.iload_n 2, 1) := by decide +kernel
theorem dX12_about_127 : decode cX12_about 127 = .ok (.ireturn, 1) := by decide +kernel
theorem dX12_about_128 : decode cX12_about 128 = .ok (.aload_n 0, 1) := by decide +kernel
theorem dX12_about_129 : decode cX12_about 129 = .ok (.getfield 901, 3) := by decide +kernel
theorem dX12_about_132 : decode cX12_about 132 = .ok (.ireturn, 1) := by decide +kernel
theorem dX12_about_133 : decode cX12_about 133 = .ok (.aload_n 0, 1) := by decide +kernel
theorem dX12_about_134 : decode cX12_about 134 = .ok (.getfield 47, 3) := by decide +kernel
theorem dX12_about_137 : decode cX12_about 137 = .ok (.ireturn, 1) := by decide +kernel
theorem dX12_about_138 : decode cX12_about 138 = .ok (.iconst (-1), 1) := by decide +kernel
theorem dX12_about_139 : decode cX12_about 139 = .ok (.ireturn, 1) := by decide +kernel
