theorem dX12_beginSounds_24 : decode cX12_beginSounds 24 = .ok (.aload_n 0, 1) := by decide +kernel
theorem dX12_beginSounds_25 : decode cX12_beginSounds 25 = .ok (.getfield 375, 3) := by decide +kernel
theorem dX12_beginSounds_28 : decode cX12_beginSounds 28 = .ok (.iload_n 2, 1) := by decide +kernel
theorem dX12_beginSounds_29 : decode cX12_beginSounds 29 = .ok (.iaload, 1) := by decide +kernel
theorem dX12_beginSounds_30 : decode cX12_beginSounds 30 = .ok (.bipush 23, 2) := by decide +kernel
theorem dX12_beginSounds_32 : decode cX12_beginSounds 32 = .ok (.if_icmp .ne 26, 3) := by decide +kernel
theorem dX12_beginSounds_35 : decode cX12_beginSounds 35 = .ok (.aload_n 0, 1) := by decide +kernel
theorem dX12_beginSounds_36 : decode cX12_beginSounds 36 = .ok (.getfield 569, 3) := by decide +kernel
theorem dX12_beginSounds_39 : decode cX12_beginSounds 39 = .ok (.iload 4, 2) := by decide +kernel
theorem dX12_beginSounds_41 : decode cX12_beginSounds 41 = .ok (.iaload, 1) := by decide +kernel
theorem dX12_beginSounds_42 : decode cX12_beginSounds 42 = .ok (.aload_n 0, 1) := by decide +kernel
theorem dX12_beginSounds_43 : decode cX12_beginSounds 43 = .ok (.getfield 566, 3) := by decide +kernel
theorem dX12_beginSounds_46 : decode cX12_beginSounds 46 = .ok (.iload 4, 2) := by decide +kernel
theorem dX12_beginSounds_48 : decode cX12_beginSounds 48 = .ok (.iaload, 1) := by decide +kernel
theorem dX12_beginSounds_49 : decode cX12_beginSounds 49 = .ok (.invokestatic 694, 3) := by decide +kernel
theorem dX12_beginSounds_52 : decode cX12_beginSounds 52 = .ok (.ifCond .ne 6, 3) := by decide +kernel
theorem dX12_beginSounds_55 : decode cX12_beginSounds 55 = .ok (.goto 20, 3) := by decide +kernel
theorem dX12_beginSounds_58 : decode cX12_beginSounds 58 = .ok (.aload_n 0, 1) := by decide +kernel
theorem dX12_beginSounds_59 : decode cX12_beginSounds 59 = .ok (.iload 4, 2) := by decide +kernel
theorem dX12_beginSounds_61 : decode cX12_beginSounds 61 = .ok (.iload_n 3, 1) := by decide +kernel
theorem dX12_beginSounds_62 : decode cX12_beginSounds 62 = .ok (.invokevirtual 584, 3) := by decide +kernel
theorem dX12_beginSounds_65 : decode cX12_beginSounds 65 = .ok (.aload_n 0, 1) := by decide +kernel
theorem dX12_beginSounds_66 : decode cX12_beginSounds 66 = .ok (.getfield 572, 3) := by decide +kernel
theorem dX12_beginSounds_69 : decode cX12_beginSounds 69 = .ok (.iload_n 3, 1) := by decide +kernel
theorem dX12_beginSounds_70 : decode cX12_beginSounds 70 = .ok (.iconst (-1), 1) := by decide +kernel
theorem dX12_beginSounds_71 : decode cX12_beginSounds 71 = .ok (.iastore, 1) := by decide +kernel
theorem dX12_beginSounds_72 : decode cX12_beginSounds 72 = .ok (.iinc 3 1, 3) := by decide +kernel
theorem dX12_beginSounds_75 : decode cX12_beginSounds 75 = .ok (.iinc 4 1, 3) := by decide +kernel
theorem dX12_beginSounds_78 : decode cX12_beginSounds 78 = .ok (.goto (-63), 3) := by decide +kernel
theorem dX12_beginSounds_81 : decode cX12_beginSounds 81 = .ok (.aload_n 0, 1) := by decide +kernel
theorem dX12_beginSounds_82 : decode cX12_beginSounds 82 = .ok (.iload_n 3, 1) := by decide +kernel
theorem dX12_beginSounds_83 : decode cX12_beginSounds 83 = .ok (.putfield 526, 3) := by decide +kernel
theorem dX12_beginSounds_86 : decode cX12_beginSounds 86 = .ok (.return_, 1) := by decide +kernel
theorem dX12_find_0 : decode cX12_find 0 = .ok (.aload_n 0, 1) := by decide +kernel
theorem dX12_find_1 : decode cX12_find 1 = .ok (.getfield 351, 3) := by decide +kernel
theorem dX12_find_4 : decode cX12_find 4 = .ok (.iload_n 2, 1) := by decide +kernel
theorem dX12_find_5 : decode cX12_find 5 = .ok (.iaload, 1) := by decide +kernel
theorem dX12_find_6 : decode cX12_find 6 = .ok (.i2l, 1) := by decide +kernel
theorem dX12_find_7 : decode cX12_find 7 = .ok (.lstore_n 3, 1) := by decide +kernel
theorem dX12_find_8 : decode cX12_find 8 = .ok (.aload_n 0, 1) := by decide +kernel
theorem dX12_find_9 : decode cX12_find 9 = .ok (.iload_n 1, 1) := by decide +kernel
theorem dX12_find_10 : decode cX12_find 10 = .ok (.invokevirtual 619, 3) := by decide +kernel
theorem dX12_find_13 : decode cX12_find 13 = .ok (.lstore 5, 2) := by decide +kernel
theorem dX12_find_15 : decode cX12_find 15 = .ok (.aload_n 0, 1) := by decide +kernel
theorem dX12_find_16 : decode cX12_find 16 = .ok (.getfield 517, 3) := by decide +kernel
theorem dX12_find_19 : decode cX12_find 19 = .ok (.iload_n 1, 1) := by decide +kernel
theorem dX12_find_20 : decode cX12_find 20 = .ok (.laload, 1) := by decide +kernel
theorem dX12_find_21 : decode cX12_find 21 = .ok (.lload_n 3, 1) := by decide +kernel
theorem dX12_find_22 : decode cX12_find 22 = .ok (.lmul, 1) := by decide +kernel
theorem dX12_find_23 : decode cX12_find 23 = .ok (.lstore 7, 2) := by decide +kernel
theorem dX12_find_25 : decode cX12_find 25 = .ok (.aload_n 0, 1) := by decide +kernel
theorem dX12_find_26 : decode cX12_find 26 = .ok (.getfield 517, 3) := by decide +kernel
theorem dX12_find_29 : decode cX12_find 29 = .ok (.iload_n 1, 1) := by decide +kernel
theorem dX12_find_30 : decode cX12_find 30 = .ok (.laload, 1) := by decide +kernel
theorem dX12_find_31 : decode cX12_find 31 = .ok (.lload 5, 2) := by decide +kernel
theorem dX12_find_33 : decode cX12_find 33 = .ok (.lmul, 1) := by decide +kernel
theorem dX12_find_34 : decode cX12_find 34 = .ok (.lstore 9, 2) := by decide +kernel
theorem dX12_find_36 : decode cX12_find 36 = .ok (.aload_n 0, 1) := by decide +kernel
theorem dX12_find_37 : decode cX12_find 37 = .ok (.getfield 538, 3) := by decide +kernel
theorem dX12_find_40 : decode cX12_find 40 = .ok (.iload_n 1, 1) := by decide +kernel
theorem dX12_find_41 : decode cX12_find 41 = .ok (.laload, 1) := by decide +kernel
theorem dX12_find_42 : decode cX12_find 42 = .ok (.l2i, 1) := by decide +kernel
theorem dX12_find_43 : decode cX12_find 43 = .ok (.istore 11, 2) := by decide +kernel
theorem dX12_find_45 : decode cX12_find 45 = .ok (.aload_n 0, 1) := by decide +kernel
theorem dX12_find_46 : decode cX12_find 46 = .ok (.getfield 523, 3) := by decide +kernel
theorem dX12_find_49 : decode cX12_find 49 = .ok (.iload_n 1, 1) := by decide +kernel
theorem dX12_find_50 : decode cX12_find 50 = .ok (.iaload, 1) := by decide +kernel
theorem dX12_find_51 : decode cX12_find 51 = .ok (.istore 12, 2) := by decide +kernel
theorem dX12_find_53 : decode cX12_find 53 = .ok (.iload 12, 2) := by decide +kernel
theorem dX12_find_55 : decode cX12_find 55 = .ok (.iload 11, 2) := by decide +kernel
theorem dX12_find_57 : decode cX12_find 57 = .ok (.if_icmp .ge 160, 3) := by decide +kernel
theorem dX12_find_60 : decode cX12_find 60 = .ok (.aload_n 0, 1) := by decide +kernel
theorem dX12_find_61 : decode cX12_find 61 = .ok (.getfield 572, 3) := by decide +kernel
theorem dX12_find_64 : decode cX12_find 64 = .ok (.iload 12, 2) := by decide +kernel
theorem dX12_find_66 : decode cX12_find 66 = .ok (.iaload, 1) := by decide +kernel
theorem dX12_find_67 : decode cX12_find 67 = .ok (.ifCond .lt 6, 3) := by decide +kernel
theorem dX12_find_70 : decode cX12_find 70 = .ok (.goto 141, 3) := by decide +kernel
theorem dX12_find_73 : decode cX12_find 73 = .ok (.aload_n 0, 1) := by decide +kernel
theorem dX12_find_74 : decode cX12_find 74 = .ok (.getfield 554, 3) := by decide +kernel
theorem dX12_find_77 : decode cX12_find 77 = .ok (.iload 12, 2) := by decide +kernel
theorem dX12_find_79 : decode cX12_find 79 = .ok (.laload, 1) := by decide +kernel
theorem dX12_find_80 : decode cX12_find 80 = .ok (.lload 7, 2) := by decide +kernel
theorem dX12_find_82 : decode cX12_find 82 = .ok (.lsub, 1) := by decide +kernel
theorem dX12_find_83 : decode cX12_find 83 = .ok (.lload 5, 2) := by decide +kernel
theorem dX12_find_85 : decode cX12_find 85 = .ok (.lmul, 1) := by decide +kernel
theorem dX12_find_86 : decode cX12_find 86 = .ok (.lstore 13, 2) := by decide +kernel
theorem dX12_find_88 : decode cX12_find 88 = .ok (.aload_n 0, 1) := by decide +kernel
theorem dX12_find_89 : decode cX12_find 89 = .ok (.getfield 526, 3) := by decide +kernel
theorem dX12_find_92 : decode cX12_find 92 = .ok (.iconst 1, 1) := by decide +kernel
theorem dX12_find_93 : decode cX12_find 93 = .ok (.isub, 1) := by decide +kernel
theorem dX12_find_94 : decode cX12_find 94 = .ok (.istore 15, 2) := by decide +kernel
theorem dX12_find_96 : decode cX12_find 96 = .ok (.iload 15, 2) := by decide +kernel
theorem dX12_find_98 : decode cX12_find 98 = .ok (.iload 11, 2) := by decide +kernel
theorem dX12_find_100 : decode cX12_find 100 = .ok (.if_icmp .lt 45, 3) := by decide +kernel
theorem dX12_find_103 : decode cX12_find 103 = .ok (.aload_n 0, 1) := by decide +kernel
theorem dX12_find_104 : decode cX12_find 104 = .ok (.getfield 554, 3) := by decide +kernel
theorem dX12_find_107 : decode cX12_find 107 = .ok (.iload 15, 2) := by decide +kernel
theorem dX12_find_109 : decode cX12_find 109 = .ok (.laload, 1) := by decide +kernel
theorem dX12_find_110 : decode cX12_find 110 = .ok (.lload 9, 2) := by decide +kernel
theorem dX12_find_112 : decode cX12_find 112 = .ok (.lsub, 1) := by decide +kernel
theorem dX12_find_113 : decode cX12_find 113 = .ok (.lload_n 3, 1) := by decide +kernel
theorem dX12_find_114 : decode cX12_find 114 = .ok (.lmul, 1) := by decide +kernel
theorem dX12_find_115 : decode cX12_find 115 = .ok (.lload 13, 2) := by decide +kernel
theorem dX12_find_117 : decode cX12_find 117 = .ok (.lcmp, 1) := by decide +kernel
theorem dX12_find_118 : decode cX12_find 118 = .ok (.ifCond .gt 21, 3) := by decide +kernel
theorem dX12_find_121 : decode cX12_find 121 = .ok (.aload_n 0, 1) := by decide +kernel
theorem dX12_find_122 : decode cX12_find 122 = .ok (.getfield 557, 3) := by decide +kernel
theorem dX12_find_125 : decode cX12_find 125 = .ok (.iload 15, 2) := by decide +kernel
theorem dX12_find_127 : decode cX12_find 127 = .ok (.laload, 1) := by decide +kernel
theorem dX12_find_128 : decode cX12_find 128 = .ok (.lload 9, 2) := by decide +kernel
theorem dX12_find_130 : decode cX12_find 130 = .ok (.lsub, 1) := by decide +kernel
theorem dX12_find_131 : decode cX12_find 131 = .ok (.lload_n 3, 1) := by decide +kernel
theorem dX12_find_132 : decode cX12_find 132 = .ok (.lmul, 1) := by decide +kernel
theorem dX12_find_133 : decode cX12_find 133 = .ok (.lload 13, 2) := by decide +kernel
theorem dX12_find_135 : decode cX12_find 135 = .ok (.lcmp, 1) := by decide +kernel
theorem dX12_find_136 : decode cX12_find 136 = .ok (.ifCond .gt 9, 3) := by decide +kernel
theorem dX12_find_139 : decode cX12_find 139 = .ok (.iinc 15 (-1), 3) := by decide +kernel
theorem dX12_find_142 : decode cX12_find 142 = .ok (.goto (-46), 3) := by decide +kernel
theorem dX12_find_145 : decode cX12_find 145 = .ok (.iload 15, 2) := by decide +kernel
theorem dX12_find_147 : decode cX12_find 147 = .ok (.iload 11, 2) := by decide +kernel
theorem dX12_find_149 : decode cX12_find 149 = .ok (.if_icmp .ge 6, 3) := by decide +kernel
theorem dX12_find_152 : decode cX12_find 152 = .ok (.goto 59, 3) := by decide +kernel
theorem dX12_find_155 : decode cX12_find 155 = .ok (.aload_n 0, 1) := by decide +kernel
theorem dX12_find_156 : decode cX12_find 156 = .ok (.getfield 572, 3) := by decide +kernel
theorem dX12_find_159 : decode cX12_find 159 = .ok (.iload 12, 2) := by decide +kernel
theorem dX12_find_161 : decode cX12_find 161 = .ok (.aload_n 0, 1) := by decide +kernel
theorem dX12_find_162 : decode cX12_find 162 = .ok (.getfield 569, 3) := by decide +kernel
theorem dX12_find_165 : decode cX12_find 165 = .ok (.iload 15, 2) := by decide +kernel
theorem dX12_find_167 : decode cX12_find 167 = .ok (.iaload, 1) := by decide +kernel
theorem dX12_find_168 : decode cX12_find 168 = .ok (.iastore, 1) := by decide +kernel
theorem dX12_find_169 : decode cX12_find 169 = .ok (.aload_n 0, 1) := by decide +kernel
theorem dX12_find_170 : decode cX12_find 170 = .ok (.getfield 575, 3) := by decide +kernel
theorem dX12_find_173 : decode cX12_find 173 = .ok (.iload 12, 2) := by decide +kernel
theorem dX12_find_175 : decode cX12_find 175 = .ok (.aload_n 0, 1) := by decide +kernel
theorem dX12_find_176 : decode cX12_find 176 = .ok (.getfield 560, 3) := by decide +kernel
theorem dX12_find_179 : decode cX12_find 179 = .ok (.iload 15, 2) := by decide +kernel
theorem dX12_find_181 : decode cX12_find 181 = .ok (.iaload, 1) := by decide +kernel
theorem dX12_find_182 : decode cX12_find 182 = .ok (.iastore, 1) := by decide +kernel
theorem dX12_find_183 : decode cX12_find 183 = .ok (.aload_n 0, 1) := by decide +kernel
theorem dX12_find_184 : decode cX12_find 184 = .ok (.getfield 578, 3) := by decide +kernel
theorem dX12_find_187 : decode cX12_find 187 = .ok (.iload 12, 2) := by decide +kernel
theorem dX12_find_189 : decode cX12_find 189 = .ok (.aload_n 0, 1) := by decide +kernel
theorem dX12_find_190 : decode cX12_find 190 = .ok (.getfield 563, 3) := by decide +kernel
theorem dX12_find_193 : decode cX12_find 193 = .ok (.iload 15, 2) := by decide +kernel
theorem dX12_find_195 : decode cX12_find 195 = .ok (.iaload, 1) := by decide +kernel
theorem dX12_find_196 : decode cX12_find 196 = .ok (.iastore, 1) := by decide +kernel
theorem dX12_find_197 : decode cX12_find 197 = .ok (.aload_n 0, 1) := by decide +kernel
theorem dX12_find_198 : decode cX12_find 198 = .ok (.getfield 581, 3) := by decide +kernel
theorem dX12_find_201 : decode cX12_find 201 = .ok (.iload 12, 2) := by decide +kernel
theorem dX12_find_203 : decode cX12_find 203 = .ok (.aload_n 0, 1) := by decide +kernel
theorem dX12_find_204 : decode cX12_find 204 = .ok (.getfield 566, 3) := by decide +kernel
theorem dX12_find_207 : decode cX12_find 207 = .ok (.iload 15, 2) := by decide +kernel
theorem dX12_find_209 : decode cX12_find 209 = .ok (.iaload, 1) := by decide +kernel
theorem dX12_find_210 : decode cX12_find 210 = .ok (.iastore, 1) := by decide +kernel
theorem dX12_find_211 : decode cX12_find 211 = .ok (.iinc 12 1, 3) := by decide +kernel
theorem dX12_find_214 : decode cX12_find 214 = .ok (.goto (-161), 3) := by decide +kernel
theorem dX12_find_217 : decode cX12_find 217 = .ok (.return_, 1) := by decide +kernel
theorem dX12_endSounds_0 : decode cX12_endSounds 0 = .ok (.aload_n 0, 1) := by decide +kernel
theorem dX12_endSounds_1 : decode cX12_endSounds 1 = .ok (.getfield 523, 3) := by decide +kernel
theorem dX12_endSounds_4 : decode cX12_endSounds 4 = .ok (.iload_n 1, 1) := by decide +kernel
theorem dX12_endSounds_5 : decode cX12_endSounds 5 = .ok (.iaload, 1) := by decide +kernel
theorem dX12_endSounds_6 : decode cX12_endSounds 6 = .ok (.istore_n 3, 1) := by decide +kernel
theorem dX12_endSounds_7 : decode cX12_endSounds 7 = .ok (.aload_n 0, 1) := by decide +kernel
theorem dX12_endSounds_8 : decode cX12_endSounds 8 = .ok (.getfield 523, 3) := by decide +kernel
theorem dX12_endSounds_11 : decode cX12_endSounds 11 = .ok (.iload_n 1, 1) := by decide +kernel
theorem dX12_endSounds_12 : decode cX12_endSounds 12 = .ok (.iaload, 1) := by decide +kernel
theorem dX12_endSounds_13 : decode cX12_endSounds 13 = .ok (.istore 4, 2) := by decide +kernel
theorem dX12_endSounds_15 : decode cX12_endSounds 15 = .ok (.iload 4, 2) := by decide +kernel
theorem dX12_endSounds_17 : decode cX12_endSounds 17 = .ok (.aload_n 0, 1) := by decide +kernel
theorem dX12_endSounds_18 : decode cX12_endSounds 18 = .ok (.getfield 526, 3) := by decide +kernel
theorem dX12_endSounds_21 : decode cX12_endSounds 21 = .ok (.if_icmp .ge 271, 3) := by decide +kernel
theorem dX12_endSounds_24 : decode cX12_endSounds 24 = .ok (.aload_n 0, 1) := by decide +kernel
theorem dX12_endSounds_25 : decode cX12_endSounds 25 = .ok (.getfield 572, 3) := by decide +kernel
theorem dX12_endSounds_28 : decode cX12_endSounds 28 = .ok (.iload 4, 2) := by decide +kernel
theorem dX12_endSounds_30 : decode cX12_endSounds 30 = .ok (.iaload, 1) := by decide +kernel
theorem dX12_endSounds_31 : decode cX12_endSounds 31 = .ok (.ifCond .lt 7, 3) := by decide +kernel
theorem dX12_endSounds_34 : decode cX12_endSounds 34 = .ok (.iconst 1, 1) := by decide +kernel
theorem dX12_endSounds_35 : decode cX12_endSounds 35 = .ok (.goto 4, 3) := by decide +kernel
theorem dX12_endSounds_38 : decode cX12_endSounds 38 = .ok (.iconst 0, 1) := by decide +kernel
theorem dX12_endSounds_39 : decode cX12_endSounds 39 = .ok (.istore 5, 2) := by decide +kernel
theorem dX12_endSounds_41 : decode cX12_endSounds 41 = .ok (.aload_n 0, 1) := by decide +kernel
theorem dX12_endSounds_42 : decode cX12_endSounds 42 = .ok (.getfield 375, 3) := by decide +kernel
theorem dX12_endSounds_45 : decode cX12_endSounds 45 = .ok (.iload_n 2, 1) := by decide +kernel
theorem dX12_endSounds_46 : decode cX12_endSounds 46 = .ok (.iaload, 1) := by decide +kernel
theorem dX12_endSounds_47 : decode cX12_endSounds 47 = .ok (.bipush 23, 2) := by decide +kernel
theorem dX12_endSounds_49 : decode cX12_endSounds 49 = .ok (.if_icmp .ne 8, 3) := by decide +kernel
theorem dX12_endSounds_52 : decode cX12_endSounds 52 = .ok (.iload 5, 2) := by decide +kernel
theorem dX12_endSounds_54 : decode cX12_endSounds 54 = .ok (.ifCond .eq 232, 3) := by decide +kernel
theorem dX12_endSounds_57 : decode cX12_endSounds 57 = .ok (.aload_n 0, 1) := by decide +kernel
theorem dX12_endSounds_58 : decode cX12_endSounds 58 = .ok (.getfield 375, 3) := by decide +kernel
theorem dX12_endSounds_61 : decode cX12_endSounds 61 = .ok (.iload_n 2, 1) := by decide +kernel
theorem dX12_endSounds_62 : decode cX12_endSounds 62 = .ok (.iaload, 1) := by decide +kernel
theorem dX12_endSounds_63 : decode cX12_endSounds 63 = .ok (.bipush 24, 2) := by decide +kernel
theorem dX12_endSounds_65 : decode cX12_endSounds 65 = .ok (.if_icmp .ne 31, 3) := by decide +kernel
theorem dX12_endSounds_68 : decode cX12_endSounds 68 = .ok (.iload 5, 2) := by decide +kernel
theorem dX12_endSounds_70 : decode cX12_endSounds 70 = .ok (.ifCond .eq 216, 3) := by decide +kernel
theorem dX12_endSounds_73 : decode cX12_endSounds 73 = .ok (.aload_n 0, 1) := by decide +kernel
theorem dX12_endSounds_74 : decode cX12_endSounds 74 = .ok (.getfield 572, 3) := by decide +kernel
theorem dX12_endSounds_77 : decode cX12_endSounds 77 = .ok (.iload 4, 2) := by decide +kernel
theorem dX12_endSounds_79 : decode cX12_endSounds 79 = .ok (.iaload, 1) := by decide +kernel
theorem dX12_endSounds_80 : decode cX12_endSounds 80 = .ok (.aload_n 0, 1) := by decide +kernel
theorem dX12_endSounds_81 : decode cX12_endSounds 81 = .ok (.getfield 581, 3) := by decide +kernel
theorem dX12_endSounds_84 : decode cX12_endSounds 84 = .ok (.iload 4, 2) := by decide +kernel
theorem dX12_endSounds_86 : decode cX12_endSounds 86 = .ok (.iaload, 1) := by decide +kernel
theorem dX12_endSounds_87 : decode cX12_endSounds 87 = .ok (.invokestatic 694, 3) := by decide +kernel
theorem dX12_endSounds_90 : decode cX12_endSounds 90 = .ok (.ifCond .ne 6, 3) := by decide +kernel
theorem dX12_endSounds_93 : decode cX12_endSounds 93 = .ok (.goto 193, 3) := by decide +kernel
theorem dX12_endSounds_96 : decode cX12_endSounds 96 = .ok (.aload_n 0, 1) := by decide +kernel
theorem dX12_endSounds_97 : decode cX12_endSounds 97 = .ok (.getfield 375, 3) := by decide +kernel
theorem dX12_endSounds_100 : decode cX12_endSounds 100 = .ok (.iload_n 2, 1) := by decide +kernel
theorem dX12_endSounds_101 : decode cX12_endSounds 101 = .ok (.iaload, 1) := by decide +kernel
theorem dX12_endSounds_102 : decode cX12_endSounds 102 = .ok (.bipush 23, 2) := by decide +kernel
theorem dX12_endSounds_104 : decode cX12_endSounds 104 = .ok (.if_icmp .eq 30, 3) := by decide +kernel
theorem dX12_endSounds_107 : decode cX12_endSounds 107 = .ok (.aload_n 0, 1) := by decide +kernel
theorem dX12_endSounds_108 : decode cX12_endSounds 108 = .ok (.getfield 375, 3) := by decide +kernel
theorem dX12_endSounds_111 : decode cX12_endSounds 111 = .ok (.iload_n 2, 1) := by decide +kernel
theorem dX12_endSounds_112 : decode cX12_endSounds 112 = .ok (.iaload, 1) := by decide +kernel
theorem dX12_endSounds_113 : decode cX12_endSounds 113 = .ok (.bipush 25, 2) := by decide +kernel
theorem dX12_endSounds_115 : decode cX12_endSounds 115 = .ok (.if_icmp .ne 44, 3) := by decide +kernel
theorem dX12_endSounds_118 : decode cX12_endSounds 118 = .ok (.aload_n 0, 1) := by decide +kernel
theorem dX12_endSounds_119 : decode cX12_endSounds 119 = .ok (.getfield 378, 3) := by decide +kernel
theorem dX12_endSounds_122 : decode cX12_endSounds 122 = .ok (.iload_n 2, 1) := by decide +kernel
theorem dX12_endSounds_123 : decode cX12_endSounds 123 = .ok (.iaload, 1) := by decide +kernel
theorem dX12_endSounds_124 : decode cX12_endSounds 124 = .ok (.bipush 35, 2) := by decide +kernel
theorem dX12_endSounds_126 : decode cX12_endSounds 126 = .ok (.if_icmp .ne 33, 3) := by decide +kernel
theorem dX12_endSounds_129 : decode cX12_endSounds 129 = .ok (.iload 5, 2) := by decide +kernel
theorem dX12_endSounds_131 : decode cX12_endSounds 131 = .ok (.ifCond .eq 28, 3) := by decide +kernel
theorem dX12_endSounds_134 : decode cX12_endSounds 134 = .ok (.aload_n 0, 1) := by decide +kernel
theorem dX12_endSounds_135 : decode cX12_endSounds 135 = .ok (.iload 4, 2) := by decide +kernel
theorem dX12_endSounds_137 : decode cX12_endSounds 137 = .ok (.aload_n 0, 1) := by decide +kernel
theorem dX12_endSounds_138 : decode cX12_endSounds 138 = .ok (.getfield 375, 3) := by decide +kernel
theorem dX12_endSounds_141 : decode cX12_endSounds 141 = .ok (.iload_n 2, 1) := by decide +kernel
theorem dX12_endSounds_142 : decode cX12_endSounds 142 = .ok (.iaload, 1) := by decide +kernel
theorem dX12_endSounds_143 : decode cX12_endSounds 143 = .ok (.bipush 23, 2) := by decide +kernel
theorem dX12_endSounds_145 : decode cX12_endSounds 145 = .ok (.if_icmp .ne 7, 3) := by decide +kernel
theorem dX12_endSounds_148 : decode cX12_endSounds 148 = .ok (.iconst 1, 1) := by decide +kernel
theorem dX12_endSounds_149 : decode cX12_endSounds 149 = .ok (.goto 4, 3) := by decide +kernel
theorem dX12_endSounds_152 : decode cX12_endSounds 152 = .ok (.iconst 0, 1) := by decide +kernel
theorem dX12_endSounds_153 : decode cX12_endSounds 153 = .ok (.invokevirtual 698, 3) := by decide +kernel
theorem dX12_endSounds_156 : decode cX12_endSounds 156 = .ok (.goto 120, 3) := by decide +kernel
theorem dX12_endSounds_159 : decode cX12_endSounds 159 = .ok (.aload_n 0, 1) := by decide +kernel
theorem dX12_endSounds_160 : decode cX12_endSounds 160 = .ok (.getfield 375, 3) := by decide +kernel
theorem dX12_endSounds_163 : decode cX12_endSounds 163 = .ok (.iload_n 2, 1) := by decide +kernel
theorem dX12_endSounds_164 : decode cX12_endSounds 164 = .ok (.iaload, 1) := by decide +kernel
theorem dX12_endSounds_165 : decode cX12_endSounds 165 = .ok (.bipush 25, 2) := by decide +kernel
theorem dX12_endSounds_167 : decode cX12_endSounds 167 = .ok (.if_icmp .ne 109, 3) := by decide +kernel
theorem dX12_endSounds_170 : decode cX12_endSounds 170 = .ok (.iload 5, 2) := by decide +kernel
theorem dX12_endSounds_172 : decode cX12_endSounds 172 = .ok (.ifCond .eq 104, 3) := by decide +kernel
theorem dX12_endSounds_175 : decode cX12_endSounds 175 = .ok (.aload_n 0, 1) := by decide +kernel
theorem dX12_endSounds_176 : decode cX12_endSounds 176 = .ok (.getfield 569, 3) := by decide +kernel
theorem dX12_endSounds_179 : decode cX12_endSounds 179 = .ok (.iload 4, 2) := by decide +kernel
theorem dX12_endSounds_181 : decode cX12_endSounds 181 = .ok (.iaload, 1) := by decide +kernel
theorem dX12_endSounds_182 : decode cX12_endSounds 182 = .ok (.aload_n 0, 1) := by decide +kernel
theorem dX12_endSounds_183 : decode cX12_endSounds 183 = .ok (.getfield 572, 3) := by decide +kernel
theorem dX12_endSounds_186 : decode cX12_endSounds 186 = .ok (.iload 4, 2) := by decide +kernel
theorem dX12_endSounds_188 : decode cX12_endSounds 188 = .ok (.iaload, 1) := by decide +kernel
theorem dX12_endSounds_189 : decode cX12_endSounds 189 = .ok (.iand, 1) := by decide +kernel
theorem dX12_endSounds_190 : decode cX12_endSounds 190 = .ok (.iconst 2, 1) := by decide +kernel
theorem dX12_endSounds_191 : decode cX12_endSounds 191 = .ok (.iand, 1) := by decide +kernel
theorem dX12_endSounds_192 : decode cX12_endSounds 192 = .ok (.iconst 2, 1) := by decide +kernel
theorem dX12_endSounds_193 : decode cX12_endSounds 193 = .ok (.if_icmp .ne 83, 3) := by decide +kernel
theorem dX12_endSounds_196 : decode cX12_endSounds 196 = .ok (.aload_n 0, 1) := by decide +kernel
theorem dX12_endSounds_197 : decode cX12_endSounds 197 = .ok (.getfield 566, 3) := by decide +kernel
theorem dX12_endSounds_200 : decode cX12_endSounds 200 = .ok (.iload 4, 2) := by decide +kernel
theorem dX12_endSounds_202 : decode cX12_endSounds 202 = .ok (.aload_n 0, 1) := by decide +kernel
theorem dX12_endSounds_203 : decode cX12_endSounds 203 = .ok (.getfield 378, 3) := by decide +kernel
theorem dX12_endSounds_206 : decode cX12_endSounds 206 = .ok (.iload_n 2, 1) := by decide +kernel
theorem dX12_endSounds_207 : decode cX12_endSounds 207 = .ok (.iaload, 1) := by decide +kernel
theorem dX12_endSounds_208 : decode cX12_endSounds 208 = .ok (.bipush 43, 2) := by decide +kernel
theorem dX12_endSounds_210 : decode cX12_endSounds 210 = .ok (.if_icmp .ne 21, 3) := by decide +kernel
theorem dX12_endSounds_213 : decode cX12_endSounds 213 = .ok (.aload_n 0, 1) := by decide +kernel
theorem dX12_endSounds_214 : decode cX12_endSounds 214 = .ok (.getfield 566, 3) := by decide +kernel
theorem dX12_endSounds_217 : decode cX12_endSounds 217 = .ok (.iload 4, 2) := by decide +kernel
theorem dX12_endSounds_219 : decode cX12_endSounds 219 = .ok (.iaload, 1) := by decide +kernel
theorem dX12_endSounds_220 : decode cX12_endSounds 220 = .ok (.aload_n 0, 1) := by decide +kernel
theorem dX12_endSounds_221 : decode cX12_endSounds 221 = .ok (.getfield 581, 3) := by decide +kernel
theorem dX12_endSounds_224 : decode cX12_endSounds 224 = .ok (.iload 4, 2) := by decide +kernel
theorem dX12_endSounds_226 : decode cX12_endSounds 226 = .ok (.iaload, 1) := by decide +kernel
theorem dX12_endSounds_227 : decode cX12_endSounds 227 = .ok (.iadd, 1) := by decide +kernel
theorem dX12_endSounds_228 : decode cX12_endSounds 228 = .ok (.goto 47, 3) := by decide +kernel
theorem dX12_endSounds_231 : decode cX12_endSounds 231 = .ok (.aload_n 0, 1) := by decide +kernel
theorem dX12_endSounds_232 : decode cX12_endSounds 232 = .ok (.getfield 378, 3) := by decide +kernel
theorem dX12_endSounds_235 : decode cX12_endSounds 235 = .ok (.iload_n 2, 1) := by decide +kernel
theorem dX12_endSounds_236 : decode cX12_endSounds 236 = .ok (.iaload, 1) := by decide +kernel
theorem dX12_endSounds_237 : decode cX12_endSounds 237 = .ok (.bipush 45, 2) := by decide +kernel
theorem dX12_endSounds_239 : decode cX12_endSounds 239 = .ok (.if_icmp .ne 21, 3) := by decide +kernel
theorem dX12_endSounds_242 : decode cX12_endSounds 242 = .ok (.aload_n 0, 1) := by decide +kernel
theorem dX12_endSounds_243 : decode cX12_endSounds 243 = .ok (.getfield 566, 3) := by decide +kernel
theorem dX12_endSounds_246 : decode cX12_endSounds 246 = .ok (.iload 4, 2) := by decide +kernel
theorem dX12_endSounds_248 : decode cX12_endSounds 248 = .ok (.iaload, 1) := by decide +kernel
theorem dX12_endSounds_249 : decode cX12_endSounds 249 = .ok (.aload_n 0, 1) := by decide +kernel
theorem dX12_endSounds_250 : decode cX12_endSounds 250 = .ok (.getfield 581, 3) := by decide +kernel
theorem dX12_endSounds_253 : decode cX12_endSounds 253 = .ok (.iload 4, 2) := by decide +kernel
theorem dX12_endSounds_255 : decode cX12_endSounds 255 = .ok (.iaload, 1) := by decide +kernel
theorem dX12_endSounds_256 : decode cX12_endSounds 256 = .ok (.isub, 1) := by decide +kernel
theorem dX12_endSounds_257 : decode cX12_endSounds 257 = .ok (.goto 18, 3) := by decide +kernel
theorem dX12_endSounds_260 : decode cX12_endSounds 260 = .ok (.aload_n 0, 1) := by decide +kernel
theorem dX12_endSounds_261 : decode cX12_endSounds 261 = .ok (.getfield 566, 3) := by decide +kernel
theorem dX12_endSounds_264 : decode cX12_endSounds 264 = .ok (.iload 4, 2) := by decide +kernel
theorem dX12_endSounds_266 : decode cX12_endSounds 266 = .ok (.iaload, 1) := by decide +kernel
theorem dX12_endSounds_267 : decode cX12_endSounds 267 = .ok (.aload_n 0, 1) := by decide +kernel
theorem dX12_endSounds_268 : decode cX12_endSounds 268 = .ok (.getfield 581, 3) := by decide +kernel
theorem dX12_endSounds_271 : decode cX12_endSounds 271 = .ok (.iload 4, 2) := by decide +kernel
theorem dX12_endSounds_273 : decode cX12_endSounds 273 = .ok (.iaload, 1) := by decide +kernel
theorem dX12_endSounds_274 : decode cX12_endSounds 274 = .ok (.imul, 1) := by decide +kernel
theorem dX12_endSounds_275 : decode cX12_endSounds 275 = .ok (.iastore, 1) := by decide +kernel
theorem dX12_endSounds_276 : decode cX12_endSounds 276 = .ok (.aload_n 0, 1) := by decide +kernel
theorem dX12_endSounds_277 : decode cX12_endSounds 277 = .ok (.iload 4, 2) := by decide +kernel
theorem dX12_endSounds_279 : decode cX12_endSounds 279 = .ok (.iload_n 3, 1) := by decide +kernel
theorem dX12_endSounds_280 : decode cX12_endSounds 280 = .ok (.invokevirtual 584, 3) := by decide +kernel
theorem dX12_endSounds_283 : decode cX12_endSounds 283 = .ok (.iinc 3 1, 3) := by decide +kernel
theorem dX12_endSounds_286 : decode cX12_endSounds 286 = .ok (.iinc 4 1, 3) := by decide +kernel
theorem dX12_endSounds_289 : decode cX12_endSounds 289 = .ok (.goto (-274), 3) := by decide +kernel
theorem dX12_endSounds_292 : decode cX12_endSounds 292 = .ok (.aload_n 0, 1) := by decide +kernel
theorem dX12_endSounds_293 : decode cX12_endSounds 293 = .ok (.iload_n 3, 1) := by decide +kernel
theorem dX12_endSounds_294 : decode cX12_endSounds 294 = .ok (.putfield 526, 3) := by decide +kernel
theorem dX12_endSounds_297 : decode cX12_endSounds 297 = .ok (.return_, 1) := by decide +kernel
theorem dX12_takes_0 : decode cX12_takes 0 = .ok (.aload_n 0, 1) := by decide +kernel
theorem dX12_takes_1 : decode cX12_takes 1 = .ok (.getfield 572, 3) := by decide +kernel
theorem dX12_takes_4 : decode cX12_takes 4 = .ok (.iload_n 1, 1) := by decide +kernel
theorem dX12_takes_5 : decode cX12_takes 5 = .ok (.iaload, 1) := by decide +kernel
theorem dX12_takes_6 : decode cX12_takes 6 = .ok (.iconst 1, 1) := by decide +kernel
theorem dX12_takes_7 : decode cX12_takes 7 = .ok (.iand, 1) := by decide +kernel
theorem dX12_takes_8 : decode cX12_takes 8 = .ok (.iconst 1, 1) := by decide +kernel
theorem dX12_takes_9 : decode cX12_takes 9 = .ok (.if_icmp .eq 7, 3) := by decide +kernel
theorem dX12_takes_12 : decode cX12_takes 12 = .ok (.iload_n 2, 1) := by decide +kernel
theorem dX12_takes_13 : decode cX12_takes 13 = .ok (.ifCond .eq 59, 3) := by decide +kernel
theorem dX12_takes_16 : decode cX12_takes 16 = .ok (.aload_n 0, 1) := by decide +kernel
theorem dX12_takes_17 : decode cX12_takes 17 = .ok (.getfield 560, 3) := by decide +kernel
theorem dX12_takes_20 : decode cX12_takes 20 = .ok (.iload_n 1, 1) := by decide +kernel
theorem dX12_takes_21 : decode cX12_takes 21 = .ok (.aload_n 0, 1) := by decide +kernel
theorem dX12_takes_22 : decode cX12_takes 22 = .ok (.getfield 572, 3) := by decide +kernel
theorem dX12_takes_25 : decode cX12_takes 25 = .ok (.iload_n 1, 1) := by decide +kernel
theorem dX12_takes_26 : decode cX12_takes 26 = .ok (.iaload, 1) := by decide +kernel
theorem dX12_takes_27 : decode cX12_takes 27 = .ok (.iconst 1, 1) := by decide +kernel
theorem dX12_takes_28 : decode cX12_takes 28 = .ok (.iand, 1) := by decide +kernel
theorem dX12_takes_29 : decode cX12_takes 29 = .ok (.iconst 1, 1) := by decide +kernel
theorem dX12_takes_30 : decode cX12_takes 30 = .ok (.if_icmp .ne 12, 3) := by decide +kernel
theorem dX12_takes_33 : decode cX12_takes 33 = .ok (.aload_n 0, 1) := by decide +kernel
theorem dX12_takes_34 : decode cX12_takes 34 = .ok (.getfield 575, 3) := by decide +kernel
theorem dX12_takes_37 : decode cX12_takes 37 = .ok (.iload_n 1, 1) := by decide +kernel
theorem dX12_takes_38 : decode cX12_takes 38 = .ok (.iaload, 1) := by decide +kernel
theorem dX12_takes_39 : decode cX12_takes 39 = .ok (.goto 4, 3) := by decide +kernel
theorem dX12_takes_42 : decode cX12_takes 42 = .ok (.iconst 0, 1) := by decide +kernel
theorem dX12_takes_43 : decode cX12_takes 43 = .ok (.iastore, 1) := by decide +kernel
theorem dX12_takes_44 : decode cX12_takes 44 = .ok (.aload_n 0, 1) := by decide +kernel
theorem dX12_takes_45 : decode cX12_takes 45 = .ok (.getfield 563, 3) := by decide +kernel
theorem dX12_takes_48 : decode cX12_takes 48 = .ok (.iload_n 1, 1) := by decide +kernel
theorem dX12_takes_49 : decode cX12_takes 49 = .ok (.aload_n 0, 1) := by decide +kernel
theorem dX12_takes_50 : decode cX12_takes 50 = .ok (.getfield 572, 3) := by decide +kernel
theorem dX12_takes_53 : decode cX12_takes 53 = .ok (.iload_n 1, 1) := by decide +kernel
theorem dX12_takes_54 : decode cX12_takes 54 = .ok (.iaload, 1) := by decide +kernel
theorem dX12_takes_55 : decode cX12_takes 55 = .ok (.iconst 1, 1) := by decide +kernel
theorem dX12_takes_56 : decode cX12_takes 56 = .ok (.iand, 1) := by decide +kernel
theorem dX12_takes_57 : decode cX12_takes 57 = .ok (.iconst 1, 1) := by decide +kernel
theorem dX12_takes_58 : decode cX12_takes 58 = .ok (.if_icmp .ne 12, 3) := by decide +kernel
theorem dX12_takes_61 : decode cX12_takes 61 = .ok (.aload_n 0, 1) := by decide +kernel
theorem dX12_takes_62 : decode cX12_takes 62 = .ok (.getfield 578, 3) := by decide +kernel
theorem dX12_takes_65 : decode cX12_takes 65 = .ok (.iload_n 1, 1) := by decide +kernel
theorem dX12_takes_66 : decode cX12_takes 66 = .ok (.iaload, 1) := by decide +kernel
theorem dX12_takes_67 : decode cX12_takes 67 = .ok (.goto 4, 3) := by decide +kernel
theorem dX12_takes_70 : decode cX12_takes 70 = .ok (.iconst 0, 1) := by decide +kernel
theorem dX12_takes_71 : decode cX12_takes 71 = .ok (.iastore, 1) := by decide +kernel
theorem dX12_takes_72 : decode cX12_takes 72 = .ok (.aload_n 0, 1) := by decide +kernel
theorem dX12_takes_73 : decode cX12_takes 73 = .ok (.getfield 572, 3) := by decide +kernel
theorem dX12_takes_76 : decode cX12_takes 76 = .ok (.iload_n 1, 1) := by decide +kernel
theorem dX12_takes_77 : decode cX12_takes 77 = .ok (.iaload, 1) := by decide +kernel
theorem dX12_takes_78 : decode cX12_takes 78 = .ok (.iconst 2, 1) := by decide +kernel
theorem dX12_takes_79 : decode cX12_takes 79 = .ok (.iand, 1) := by decide +kernel
theorem dX12_takes_80 : decode cX12_takes 80 = .ok (.iconst 2, 1) := by decide +kernel
theorem dX12_takes_81 : decode cX12_takes 81 = .ok (.if_icmp .eq 7, 3) := by decide +kernel
theorem dX12_takes_84 : decode cX12_takes 84 = .ok (.iload_n 2, 1) := by decide +kernel
theorem dX12_takes_85 : decode cX12_takes 85 = .ok (.ifCond .eq 31, 3) := by decide +kernel
theorem dX12_takes_88 : decode cX12_takes 88 = .ok (.aload_n 0, 1) := by decide +kernel
theorem dX12_takes_89 : decode cX12_takes 89 = .ok (.getfield 566, 3) := by decide +kernel
theorem dX12_takes_92 : decode cX12_takes 92 = .ok (.iload_n 1, 1) := by decide +kernel
theorem dX12_takes_93 : decode cX12_takes 93 = .ok (.aload_n 0, 1) := by decide +kernel
theorem dX12_takes_94 : decode cX12_takes 94 = .ok (.getfield 572, 3) := by decide +kernel
theorem dX12_takes_97 : decode cX12_takes 97 = .ok (.iload_n 1, 1) := by decide +kernel
theorem dX12_takes_98 : decode cX12_takes 98 = .ok (.iaload, 1) := by decide +kernel
theorem dX12_takes_99 : decode cX12_takes 99 = .ok (.iconst 2, 1) := by decide +kernel
theorem dX12_takes_100 : decode cX12_takes 100 = .ok (.iand, 1) := by decide +kernel
theorem dX12_takes_101 : decode cX12_takes 101 = .ok (.iconst 2, 1) := by decide +kernel
theorem dX12_takes_102 : decode cX12_takes 102 = .ok (.if_icmp .ne 12, 3) := by decide +kernel
theorem dX12_takes_105 : decode cX12_takes 105 = .ok (.aload_n 0, 1) := by decide +kernel
theorem dX12_takes_106 : decode cX12_takes 106 = .ok (.getfield 581, 3) := by decide +kernel
theorem dX12_takes_109 : decode cX12_takes 109 = .ok (.iload_n 1, 1) := by decide +kernel
theorem dX12_takes_110 : decode cX12_takes 110 = .ok (.iaload, 1) := by decide +kernel
theorem dX12_takes_111 : decode cX12_takes 111 = .ok (.goto 4, 3) := by decide +kernel
theorem dX12_takes_114 : decode cX12_takes 114 = .ok (.iconst 0, 1) := by decide +kernel
theorem dX12_takes_115 : decode cX12_takes 115 = .ok (.iastore, 1) := by decide +kernel
theorem dX12_takes_116 : decode cX12_takes 116 = .ok (.aload_n 0, 1) := by decide +kernel
theorem dX12_takes_117 : decode cX12_takes 117 = .ok (.getfield 569, 3) := by decide +kernel
theorem dX12_takes_120 : decode cX12_takes 120 = .ok (.iload_n 1, 1) := by decide +kernel
theorem dX12_takes_121 : decode cX12_takes 121 = .ok (.iload_n 2, 1) := by decide +kernel
theorem dX12_takes_122 : decode cX12_takes 122 = .ok (.ifCond .eq 12, 3) := by decide +kernel
theorem dX12_takes_125 : decode cX12_takes 125 = .ok (.aload_n 0, 1) := by decide +kernel
theorem dX12_takes_126 : decode cX12_takes 126 = .ok (.getfield 572, 3) := by decide +kernel
theorem dX12_takes_129 : decode cX12_takes 129 = .ok (.iload_n 1, 1) := by decide +kernel
theorem dX12_takes_130 : decode cX12_takes 130 = .ok (.iaload, 1) := by decide +kernel
theorem dX12_takes_131 : decode cX12_takes 131 = .ok (.goto 16, 3) := by decide +kernel
theorem dX12_takes_134 : decode cX12_takes 134 = .ok (.aload_n 0, 1) := by decide +kernel
theorem dX12_takes_135 : decode cX12_takes 135 = .ok (.getfield 569, 3) := by decide +kernel
theorem dX12_takes_138 : decode cX12_takes 138 = .ok (.iload_n 1, 1) := by decide +kernel
theorem dX12_takes_139 : decode cX12_takes 139 = .ok (.iaload, 1) := by decide +kernel
theorem dX12_takes_140 : decode cX12_takes 140 = .ok (.aload_n 0, 1) := by decide +kernel
theorem dX12_takes_141 : decode cX12_takes 141 = .ok (.getfield 572, 3) := by decide +kernel
theorem dX12_takes_144 : decode cX12_takes 144 = .ok (.iload_n 1, 1) := by decide +kernel
theorem dX12_takes_145 : decode cX12_takes 145 = .ok (.iaload, 1) := by decide +kernel
theorem dX12_takes_146 : decode cX12_takes 146 = .ok (.ior, 1) := by decide +kernel
theorem dX12_takes_147 : decode cX12_takes 147 = .ok (.iastore, 1) := by decide +kernel
theorem dX12_takes_148 : decode cX12_takes 148 = .ok (.return_, 1) := by decide +kernel
theorem dX12_feed_0 : decode cX12_feed 0 = .ok (.aload_n 0, 1) := by decide +kernel
theorem dX12_feed_1 : decode cX12_feed 1 = .ok (.getfield 47, 3) := by decide +kernel
theorem dX12_feed_4 : decode cX12_feed 4 = .ok (.sipush 1980, 3) := by decide +kernel
theorem dX12_feed_7 : decode cX12_feed 7 = .ok (.if_icmp .le 5, 3) := by decide +kernel
theorem dX12_feed_10 : decode cX12_feed 10 = .ok (.iconst 0, 1) := by decide +kernel
theorem dX12_feed_11 : decode cX12_feed 11 = .ok (.ireturn, 1) := by decide +kernel
theorem dX12_feed_12 : decode cX12_feed 12 = .ok (.iconst 0, 1) := by decide +kernel
theorem dX12_feed_13 : decode cX12_feed 13 = .ok (.istore 6, 2) := by decide +kernel
theorem dX12_feed_15 : decode cX12_feed 15 = .ok (.iload 6, 2) := by decide +kernel
theorem dX12_feed_17 : decode cX12_feed 17 = .ok (.bipush 20, 2) := by decide +kernel
theorem dX12_feed_19 : decode cX12_feed 19 = .ok (.if_icmp .ge 83, 3) := by decide +kernel
theorem dX12_feed_22 : decode cX12_feed 22 = .ok (.iload 6, 2) := by decide +kernel
theorem dX12_feed_24 : decode cX12_feed 24 = .ok (.iconst 4, 1) := by decide +kernel
theorem dX12_feed_25 : decode cX12_feed 25 = .ok (.if_icmp .ge 7, 3) := by decide +kernel
theorem dX12_feed_28 : decode cX12_feed 28 = .ok (.iload_n 1, 1) := by decide +kernel
theorem dX12_feed_29 : decode cX12_feed 29 = .ok (.goto 39, 3) := by decide +kernel
theorem dX12_feed_32 : decode cX12_feed 32 = .ok (.iload 6, 2) := by decide +kernel
theorem dX12_feed_34 : decode cX12_feed 34 = .ok (.bipush 8, 2) := by decide +kernel
theorem dX12_feed_36 : decode cX12_feed 36 = .ok (.if_icmp .ge 7, 3) := by decide +kernel
theorem dX12_feed_39 : decode cX12_feed 39 = .ok (.iload_n 2, 1) := by decide +kernel
theorem dX12_feed_40 : decode cX12_feed 40 = .ok (.goto 28, 3) := by decide +kernel
theorem dX12_feed_43 : decode cX12_feed 43 = .ok (.iload 6, 2) := by decide +kernel
theorem dX12_feed_45 : decode cX12_feed 45 = .ok (.bipush 12, 2) := by decide +kernel
theorem dX12_feed_47 : decode cX12_feed 47 = .ok (.if_icmp .ge 7, 3) := by decide +kernel
theorem dX12_feed_50 : decode cX12_feed 50 = .ok (.iload_n 3, 1) := by decide +kernel
theorem dX12_feed_51 : decode cX12_feed 51 = .ok (.goto 17, 3) := by decide +kernel
theorem dX12_feed_54 : decode cX12_feed 54 = .ok (.iload 6, 2) := by decide +kernel
theorem dX12_feed_56 : decode cX12_feed 56 = .ok (.bipush 16, 2) := by decide +kernel
theorem dX12_feed_58 : decode cX12_feed 58 = .ok (.if_icmp .ge 8, 3) := by decide +kernel
theorem dX12_feed_61 : decode cX12_feed 61 = .ok (.iload 4, 2) := by decide +kernel
theorem dX12_feed_63 : decode cX12_feed 63 = .ok (.goto 5, 3) := by decide +kernel
theorem dX12_feed_66 : decode cX12_feed 66 = .ok (.iload 5, 2) := by decide +kernel
theorem dX12_feed_68 : decode cX12_feed 68 = .ok (.istore 7, 2) := by decide +kernel
theorem dX12_feed_70 : decode cX12_feed 70 = .ok (.aload_n 0, 1) := by decide +kernel
theorem dX12_feed_71 : decode cX12_feed 71 = .ok (.getfield 50, 3) := by decide +kernel
theorem dX12_feed_74 : decode cX12_feed 74 = .ok (.aload_n 0, 1) := by decide +kernel
theorem dX12_feed_75 : decode cX12_feed 75 = .ok (.getfield 47, 3) := by decide +kernel
theorem dX12_feed_78 : decode cX12_feed 78 = .ok (.iload 6, 2) := by decide +kernel
theorem dX12_feed_80 : decode cX12_feed 80 = .ok (.iadd, 1) := by decide +kernel
theorem dX12_feed_81 : decode cX12_feed 81 = .ok (.iload 7, 2) := by decide +kernel
theorem dX12_feed_83 : decode cX12_feed 83 = .ok (.bipush 24, 2) := by decide +kernel
theorem dX12_feed_85 : decode cX12_feed 85 = .ok (.bipush 8, 2) := by decide +kernel
theorem dX12_feed_87 : decode cX12_feed 87 = .ok (.iload 6, 2) := by decide +kernel
theorem dX12_feed_89 : decode cX12_feed 89 = .ok (.iconst 4, 1) := by decide +kernel
theorem dX12_feed_90 : decode cX12_feed 90 = .ok (.irem, 1) := by decide +kernel
theorem dX12_feed_91 : decode cX12_feed 91 = .ok (.imul, 1) := by decide +kernel
theorem dX12_feed_92 : decode cX12_feed 92 = .ok (.isub, 1) := by decide +kernel
theorem dX12_feed_93 : decode cX12_feed 93 = .ok (.ishr, 1) := by decide +kernel
theorem dX12_feed_94 : decode cX12_feed 94 = .ok (.i2b, 1) := by decide +kernel
theorem dX12_feed_95 : decode cX12_feed 95 = .ok (.bastore, 1) := by decide +kernel
theorem dX12_feed_96 : decode cX12_feed 96 = .ok (.iinc 6 1, 3) := by decide +kernel
theorem dX12_feed_99 : decode cX12_feed 99 = .ok (.goto (-84), 3) := by decide +kernel
theorem dX12_feed_102 : decode cX12_feed 102 = .ok (.aload_n 0, 1) := by decide +kernel
theorem dX12_feed_103 : decode cX12_feed 103 = .ok (.dup, 1) := by decide +kernel
theorem dX12_feed_104 : decode cX12_feed 104 = .ok (.getfield 47, 3) := by decide +kernel
theorem dX12_feed_107 : decode cX12_feed 107 = .ok (.bipush 20, 2) := by decide +kernel
theorem dX12_feed_109 : decode cX12_feed 109 = .ok (.iadd, 1) := by decide +kernel
theorem dX12_feed_110 : decode cX12_feed 110 = .ok (.putfield 47, 3) := by decide +kernel
theorem dX12_feed_113 : decode cX12_feed 113 = .ok (.iconst 1, 1) := by decide +kernel
theorem dX12_feed_114 : decode cX12_feed 114 = .ok (.ireturn, 1) := by decide +kernel
theorem dX12_end_0 : decode cX12_end 0 = .ok (.iload_n 1, 1) := by decide +kernel
theorem dX12_end_1 : decode cX12_end 1 = .ok (.ifCond .lt 11, 3) := by decide +kernel
theorem dX12_end_4 : decode cX12_end 4 = .ok (.iload_n 1, 1) := by decide +kernel
theorem dX12_end_5 : decode cX12_end 5 = .ok (.aload_n 0, 1) := by decide +kernel
theorem dX12_end_6 : decode cX12_end 6 = .ok (.getfield 47, 3) := by decide +kernel
theorem dX12_end_9 : decode cX12_end 9 = .ok (.if_icmp .le 5, 3) := by decide +kernel
theorem dX12_end_12 : decode cX12_end 12 = .ok (.iconst 0, 1) := by decide +kernel
theorem dX12_end_13 : decode cX12_end 13 = .ok (.ireturn, 1) := by decide +kernel
theorem dX12_end_14 : decode cX12_end 14 = .ok (.aload_n 0, 1) := by decide +kernel
theorem dX12_end_15 : decode cX12_end 15 = .ok (.iload_n 1, 1) := by decide +kernel
theorem dX12_end_16 : decode cX12_end 16 = .ok (.putfield 47, 3) := by decide +kernel
theorem dX12_end_19 : decode cX12_end 19 = .ok (.iconst 1, 1) := by decide +kernel
theorem dX12_end_20 : decode cX12_end 20 = .ok (.ireturn, 1) := by decide +kernel
theorem dX12_begins_0 : decode cX12_begins 0 = .ok (.aload_n 0, 1) := by decide +kernel
theorem dX12_begins_1 : decode cX12_begins 1 = .ok (.iconst 0, 1) := by decide +kernel
theorem dX12_begins_2 : decode cX12_begins 2 = .ok (.putfield 41, 3) := by decide +kernel
theorem dX12_begins_5 : decode cX12_begins 5 = .ok (.aload_n 0, 1) := by decide +kernel
theorem dX12_begins_6 : decode cX12_begins 6 = .ok (.iconst (-1), 1) := by decide +kernel
theorem dX12_begins_7 : decode cX12_begins 7 = .ok (.putfield 44, 3) := by decide +kernel
theorem dX12_begins_10 : decode cX12_begins 10 = .ok (.aload_n 0, 1) := by decide +kernel
theorem dX12_begins_11 : decode cX12_begins 11 = .ok (.iconst 0, 1) := by decide +kernel
theorem dX12_begins_12 : decode cX12_begins 12 = .ok (.putfield 306, 3) := by decide +kernel
theorem dX12_begins_15 : decode cX12_begins 15 = .ok (.aload_n 0, 1) := by decide +kernel
theorem dX12_begins_16 : decode cX12_begins 16 = .ok (.iconst 0, 1) := by decide +kernel
theorem dX12_begins_17 : decode cX12_begins 17 = .ok (.putfield 116, 3) := by decide +kernel
theorem dX12_begins_20 : decode cX12_begins 20 = .ok (.aload_n 0, 1) := by decide +kernel
theorem dX12_begins_21 : decode cX12_begins 21 = .ok (.aload_n 0, 1) := by decide +kernel
theorem dX12_begins_22 : decode cX12_begins 22 = .ok (.getfield 1, 3) := by decide +kernel
theorem dX12_begins_25 : decode cX12_begins 25 = .ok (.putfield 807, 3) := by decide +kernel
theorem dX12_begins_28 : decode cX12_begins 28 = .ok (.aload_n 0, 1) := by decide +kernel
theorem dX12_begins_29 : decode cX12_begins 29 = .ok (.aload_n 0, 1) := by decide +kernel
theorem dX12_begins_30 : decode cX12_begins 30 = .ok (.getfield 372, 3) := by decide +kernel
theorem dX12_begins_33 : decode cX12_begins 33 = .ok (.putfield 810, 3) := by decide +kernel
theorem dX12_begins_36 : decode cX12_begins 36 = .ok (.aload_n 0, 1) := by decide +kernel
theorem dX12_begins_37 : decode cX12_begins 37 = .ok (.aload_n 0, 1) := by decide +kernel
theorem dX12_begins_38 : decode cX12_begins 38 = .ok (.getfield 369, 3) := by decide +kernel
theorem dX12_begins_41 : decode cX12_begins 41 = .ok (.putfield 813, 3) := by decide +kernel
theorem dX12_begins_44 : decode cX12_begins 44 = .ok (.aload_n 0, 1) := by decide +kernel
theorem dX12_begins_45 : decode cX12_begins 45 = .ok (.aload_n 0, 1) := by decide +kernel
theorem dX12_begins_46 : decode cX12_begins 46 = .ok (.getfield 816, 3) := by decide +kernel
theorem dX12_begins_49 : decode cX12_begins 49 = .ok (.putfield 819, 3) := by decide +kernel
theorem dX12_begins_52 : decode cX12_begins 52 = .ok (.aload_n 0, 1) := by decide +kernel
theorem dX12_begins_53 : decode cX12_begins 53 = .ok (.aload_n 0, 1) := by decide +kernel
theorem dX12_begins_54 : decode cX12_begins 54 = .ok (.getfield 822, 3) := by decide +kernel
theorem dX12_begins_57 : decode cX12_begins 57 = .ok (.putfield 126, 3) := by decide +kernel
theorem dX12_begins_60 : decode cX12_begins 60 = .ok (.iconst 0, 1) := by decide +kernel
theorem dX12_begins_61 : decode cX12_begins 61 = .ok (.istore_n 1, 1) := by decide +kernel
theorem dX12_begins_62 : decode cX12_begins 62 = .ok (.iload_n 1, 1) := by decide +kernel
theorem dX12_begins_63 : decode cX12_begins 63 = .ok (.aload_n 0, 1) := by decide +kernel
theorem dX12_begins_64 : decode cX12_begins 64 = .ok (.getfield 822, 3) := by decide +kernel
theorem dX12_begins_67 : decode cX12_begins 67 = .ok (.if_icmp .ge 21, 3) := by decide +kernel
theorem dX12_begins_70 : decode cX12_begins 70 = .ok (.aload_n 0, 1) := by decide +kernel
theorem dX12_begins_71 : decode cX12_begins 71 = .ok (.getfield 132, 3) := by decide +kernel
theorem dX12_begins_74 : decode cX12_begins 74 = .ok (.iload_n 1, 1) := by decide +kernel
theorem dX12_begins_75 : decode cX12_begins 75 = .ok (.aload_n 0, 1) := by decide +kernel
theorem dX12_begins_76 : decode cX12_begins 76 = .ok (.getfield 708, 3) := by decide +kernel
theorem dX12_begins_79 : decode cX12_begins 79 = .ok (.iload_n 1, 1) := by decide +kernel
theorem dX12_begins_80 : decode cX12_begins 80 = .ok (.iaload, 1) := by decide +kernel
theorem dX12_begins_81 : decode cX12_begins 81 = .ok (.iastore, 1) := by decide +kernel
theorem dX12_begins_82 : decode cX12_begins 82 = .ok (.iinc 1 1, 3) := by decide +kernel
theorem dX12_begins_85 : decode cX12_begins 85 = .ok (.goto (-23), 3) := by decide +kernel
theorem dX12_begins_88 : decode cX12_begins 88 = .ok (.aload_n 0, 1) := by decide +kernel
theorem dX12_begins_89 : decode cX12_begins 89 = .ok (.iconst 0, 1) := by decide +kernel
theorem dX12_begins_90 : decode cX12_begins 90 = .ok (.invokevirtual 108, 3) := by decide +kernel
theorem dX12_begins_93 : decode cX12_begins 93 = .ok (.return_, 1) := by decide +kernel
theorem dX12_over_0 : decode cX12_over 0 = .ok (.aload_n 0, 1) := by decide +kernel
theorem dX12_over_1 : decode cX12_over 1 = .ok (.aload_n 0, 1) := by decide +kernel
theorem dX12_over_2 : decode cX12_over 2 = .ok (.getfield 41, 3) := by decide +kernel
theorem dX12_over_5 : decode cX12_over 5 = .ok (.putfield 726, 3) := by decide +kernel
theorem dX12_over_8 : decode cX12_over 8 = .ok (.aload_n 0, 1) := by decide +kernel
theorem dX12_over_9 : decode cX12_over 9 = .ok (.aload_n 0, 1) := by decide +kernel
theorem dX12_over_10 : decode cX12_over 10 = .ok (.getfield 41, 3) := by decide +kernel
theorem dX12_over_13 : decode cX12_over 13 = .ok (.ifCond .eq 12, 3) := by decide +kernel
theorem dX12_over_16 : decode cX12_over 16 = .ok (.aload_n 0, 1) := by decide +kernel
theorem dX12_over_17 : decode cX12_over 17 = .ok (.getfield 41, 3) := by decide +kernel
theorem dX12_over_20 : decode cX12_over 20 = .ok (.bipush 11, 2) := by decide +kernel
theorem dX12_over_22 : decode cX12_over 22 = .ok (.if_icmp .ne 7, 3) := by decide +kernel
theorem dX12_over_25 : decode cX12_over 25 = .ok (.iconst (-1), 1) := by decide +kernel
theorem dX12_over_26 : decode cX12_over 26 = .ok (.goto 7, 3) := by decide +kernel
theorem dX12_over_29 : decode cX12_over 29 = .ok (.aload_n 0, 1) := by decide +kernel
theorem dX12_over_30 : decode cX12_over 30 = .ok (.getfield 44, 3) := by decide +kernel
theorem dX12_over_33 : decode cX12_over 33 = .ok (.putfield 729, 3) := by decide +kernel
theorem dX12_over_36 : decode cX12_over 36 = .ok (.aload_n 0, 1) := by decide +kernel
theorem dX12_over_37 : decode cX12_over 37 = .ok (.aload_n 0, 1) := by decide +kernel
theorem dX12_over_38 : decode cX12_over 38 = .ok (.getfield 306, 3) := by decide +kernel
theorem dX12_over_41 : decode cX12_over 41 = .ok (.putfield 732, 3) := by decide +kernel
theorem dX12_over_44 : decode cX12_over 44 = .ok (.aload_n 0, 1) := by decide +kernel
theorem dX12_over_45 : decode cX12_over 45 = .ok (.iconst 0, 1) := by decide +kernel
theorem dX12_over_46 : decode cX12_over 46 = .ok (.putfield 47, 3) := by decide +kernel
theorem dX12_over_49 : decode cX12_over 49 = .ok (.aload_n 0, 1) := by decide +kernel
theorem dX12_over_50 : decode cX12_over 50 = .ok (.getfield 41, 3) := by decide +kernel
theorem dX12_over_53 : decode cX12_over 53 = .ok (.ifCond .ne 5, 3) := by decide +kernel
theorem dX12_over_56 : decode cX12_over 56 = .ok (.iconst 0, 1) := by decide +kernel
theorem dX12_over_57 : decode cX12_over 57 = .ok (.ireturn, 1) := by decide +kernel
theorem dX12_over_58 : decode cX12_over 58 = .ok (.aload_n 0, 1) := by decide +kernel
theorem dX12_over_59 : decode cX12_over 59 = .ok (.aload_n 0, 1) := by decide +kernel
theorem dX12_over_60 : decode cX12_over 60 = .ok (.getfield 807, 3) := by decide +kernel
theorem dX12_over_63 : decode cX12_over 63 = .ok (.putfield 1, 3) := by decide +kernel
theorem dX12_over_66 : decode cX12_over 66 = .ok (.aload_n 0, 1) := by decide +kernel
theorem dX12_over_67 : decode cX12_over 67 = .ok (.aload_n 0, 1) := by decide +kernel
theorem dX12_over_68 : decode cX12_over 68 = .ok (.getfield 810, 3) := by decide +kernel
theorem dX12_over_71 : decode cX12_over 71 = .ok (.putfield 372, 3) := by decide +kernel
theorem dX12_over_74 : decode cX12_over 74 = .ok (.aload_n 0, 1) := by decide +kernel
theorem dX12_over_75 : decode cX12_over 75 = .ok (.aload_n 0, 1) := by decide +kernel
theorem dX12_over_76 : decode cX12_over 76 = .ok (.getfield 813, 3) := by decide +kernel
theorem dX12_over_79 : decode cX12_over 79 = .ok (.putfield 369, 3) := by decide +kernel
theorem dX12_over_82 : decode cX12_over 82 = .ok (.aload_n 0, 1) := by decide +kernel
theorem dX12_over_83 : decode cX12_over 83 = .ok (.aload_n 0, 1) := by decide +kernel
theorem dX12_over_84 : decode cX12_over 84 = .ok (.getfield 819, 3) := by decide +kernel
theorem dX12_over_87 : decode cX12_over 87 = .ok (.putfield 816, 3) := by decide +kernel
theorem dX12_over_90 : decode cX12_over 90 = .ok (.aload_n 0, 1) := by decide +kernel
theorem dX12_over_91 : decode cX12_over 91 = .ok (.getfield 41, 3) := by decide +kernel
theorem dX12_over_94 : decode cX12_over 94 = .ok (.ireturn, 1) := by decide +kernel
theorem dX12_head_0 : decode cX12_head 0 = .ok (.aload_n 0, 1) := by decide +kernel
theorem dX12_head_1 : decode cX12_head 1 = .ok (.getfield 816, 3) := by decide +kernel
theorem dX12_head_4 : decode cX12_head 4 = .ok (.istore_n 1, 1) := by decide +kernel
theorem dX12_head_5 : decode cX12_head 5 = .ok (.aload_n 0, 1) := by decide +kernel
theorem dX12_head_6 : decode cX12_head 6 = .ok (.iconst 0, 1) := by decide +kernel
theorem dX12_head_7 : decode cX12_head 7 = .ok (.putfield 116, 3) := by decide +kernel
theorem dX12_head_10 : decode cX12_head 10 = .ok (.aload_n 0, 1) := by decide +kernel
theorem dX12_head_11 : decode cX12_head 11 = .ok (.getfield 68, 3) := by decide +kernel
theorem dX12_head_14 : decode cX12_head 14 = .ok (.iconst 2, 1) := by decide +kernel
theorem dX12_head_15 : decode cX12_head 15 = .ok (.if_icmp .eq 13, 3) := by decide +kernel
theorem dX12_head_18 : decode cX12_head 18 = .ok (.aload_n 0, 1) := by decide +kernel
theorem dX12_head_19 : decode cX12_head 19 = .ok (.iconst 1, 1) := by decide +kernel
theorem dX12_head_20 : decode cX12_head 20 = .ok (.aload_n 0, 1) := by decide +kernel
theorem dX12_head_21 : decode cX12_head 21 = .ok (.getfield 58, 3) := by decide +kernel
theorem dX12_head_24 : decode cX12_head 24 = .ok (.invokevirtual 237, 3) := by decide +kernel
theorem dX12_head_27 : decode cX12_head 27 = .ok (.return_, 1) := by decide +kernel
theorem dX12_head_28 : decode cX12_head 28 = .ok (.aload_n 0, 1) := by decide +kernel
theorem dX12_head_29 : decode cX12_head 29 = .ok (.invokevirtual 225, 3) := by decide +kernel
theorem dX12_head_32 : decode cX12_head 32 = .ok (.ifCond .lt 12, 3) := by decide +kernel
theorem dX12_head_35 : decode cX12_head 35 = .ok (.aload_n 0, 1) := by decide +kernel
theorem dX12_head_36 : decode cX12_head 36 = .ok (.iconst 2, 1) := by decide +kernel
theorem dX12_head_37 : decode cX12_head 37 = .ok (.aload_n 0, 1) := by decide +kernel
theorem dX12_head_38 : decode cX12_head 38 = .ok (.getfield 58, 3) := by decide +kernel
theorem dX12_head_41 : decode cX12_head 41 = .ok (.invokevirtual 237, 3) := by decide +kernel
theorem dX12_head_44 : decode cX12_head 44 = .ok (.aload_n 0, 1) := by decide +kernel
theorem dX12_head_45 : decode cX12_head 45 = .ok (.getfield 129, 3) := by decide +kernel
theorem dX12_head_48 : decode cX12_head 48 = .ok (.iload_n 1, 1) := by decide +kernel
theorem dX12_head_49 : decode cX12_head 49 = .ok (.aload_n 0, 1) := by decide +kernel
theorem dX12_head_50 : decode cX12_head 50 = .ok (.getfield 93, 3) := by decide +kernel
theorem dX12_head_53 : decode cX12_head 53 = .ok (.lastore, 1) := by decide +kernel
theorem dX12_head_54 : decode cX12_head 54 = .ok (.aload_n 0, 1) := by decide +kernel
theorem dX12_head_55 : decode cX12_head 55 = .ok (.getfield 135, 3) := by decide +kernel
theorem dX12_head_58 : decode cX12_head 58 = .ok (.iload_n 1, 1) := by decide +kernel
theorem dX12_head_59 : decode cX12_head 59 = .ok (.aload_n 0, 1) := by decide +kernel
theorem dX12_head_60 : decode cX12_head 60 = .ok (.getfield 97, 3) := by decide +kernel
theorem dX12_head_63 : decode cX12_head 63 = .ok (.lastore, 1) := by decide +kernel
theorem dX12_head_64 : decode cX12_head 64 = .ok (.aload_n 0, 1) := by decide +kernel
theorem dX12_head_65 : decode cX12_head 65 = .ok (.getfield 41, 3) := by decide +kernel
theorem dX12_head_68 : decode cX12_head 68 = .ok (.ifCond .ne 7, 3) := by decide +kernel
theorem dX12_head_71 : decode cX12_head 71 = .ok (.aload_n 0, 1) := by decide +kernel
theorem dX12_head_72 : decode cX12_head 72 = .ok (.invokevirtual 211, 3) := by decide +kernel
theorem dX12_head_75 : decode cX12_head 75 = .ok (.aload_n 0, 1) := by decide +kernel
theorem dX12_head_76 : decode cX12_head 76 = .ok (.getfield 41, 3) := by decide +kernel
theorem dX12_head_79 : decode cX12_head 79 = .ok (.ifCond .ne 114, 3) := by decide +kernel
theorem dX12_head_82 : decode cX12_head 82 = .ok (.aload_n 0, 1) := by decide +kernel
theorem dX12_head_83 : decode cX12_head 83 = .ok (.getfield 68, 3) := by decide +kernel
theorem dX12_head_86 : decode cX12_head 86 = .ok (.iconst 2, 1) := by decide +kernel
theorem dX12_head_87 : decode cX12_head 87 = .ok (.if_icmp .ne 106, 3) := by decide +kernel
theorem dX12_head_90 : decode cX12_head 90 = .ok (.aload_n 0, 1) := by decide +kernel
theorem dX12_head_91 : decode cX12_head 91 = .ok (.invokevirtual 225, 3) := by decide +kernel
theorem dX12_head_94 : decode cX12_head 94 = .ok (.ifCond .ge 46, 3) := by decide +kernel
theorem dX12_head_97 : decode cX12_head 97 = .ok (.aload_n 0, 1) := by decide +kernel
theorem dX12_head_98 : decode cX12_head 98 = .ok (.getfield 93, 3) := by decide +kernel
theorem dX12_head_101 : decode cX12_head 101 = .ok (.aload_n 0, 1) := by decide +kernel
theorem dX12_head_102 : decode cX12_head 102 = .ok (.getfield 129, 3) := by decide +kernel
theorem dX12_head_105 : decode cX12_head 105 = .ok (.iload_n 1, 1) := by decide +kernel
theorem dX12_head_106 : decode cX12_head 106 = .ok (.laload, 1) := by decide +kernel
theorem dX12_head_107 : decode cX12_head 107 = .ok (.lcmp, 1) := by decide +kernel
theorem dX12_head_108 : decode cX12_head 108 = .ok (.ifCond .ne 17, 3) := by decide +kernel
theorem dX12_head_111 : decode cX12_head 111 = .ok (.aload_n 0, 1) := by decide +kernel
theorem dX12_head_112 : decode cX12_head 112 = .ok (.getfield 97, 3) := by decide +kernel
theorem dX12_head_115 : decode cX12_head 115 = .ok (.aload_n 0, 1) := by decide +kernel
theorem dX12_head_116 : decode cX12_head 116 = .ok (.getfield 135, 3) := by decide +kernel
theorem dX12_head_119 : decode cX12_head 119 = .ok (.iload_n 1, 1) := by decide +kernel
theorem dX12_head_120 : decode cX12_head 120 = .ok (.laload, 1) := by decide +kernel
theorem dX12_head_121 : decode cX12_head 121 = .ok (.lcmp, 1) := by decide +kernel
theorem dX12_head_122 : decode cX12_head 122 = .ok (.ifCond .eq 18, 3) := by decide +kernel
theorem dX12_head_125 : decode cX12_head 125 = .ok (.aload_n 0, 1) := by decide +kernel
theorem dX12_head_126 : decode cX12_head 126 = .ok (.invokevirtual 218, 3) := by decide +kernel
theorem dX12_head_129 : decode cX12_head 129 = .ok (.ifCond .ge 11, 3) := by decide +kernel
theorem dX12_head_132 : decode cX12_head 132 = .ok (.aload_n 0, 1) := by decide +kernel
theorem dX12_head_133 : decode cX12_head 133 = .ok (.getfield 116, 3) := by decide +kernel
theorem dX12_head_136 : decode cX12_head 136 = .ok (.iconst 4, 1) := by decide +kernel
theorem dX12_head_137 : decode cX12_head 137 = .ok (.if_icmp .ne 13, 3) := by decide +kernel
theorem dX12_head_140 : decode cX12_head 140 = .ok (.aload_n 0, 1) := by decide +kernel
theorem dX12_head_141 : decode cX12_head 141 = .ok (.iconst 2, 1) := by decide +kernel
theorem dX12_head_142 : decode cX12_head 142 = .ok (.aload_n 0, 1) := by decide +kernel
theorem dX12_head_143 : decode cX12_head 143 = .ok (.getfield 58, 3) := by decide +kernel
theorem dX12_head_146 : decode cX12_head 146 = .ok (.invokevirtual 237, 3) := by decide +kernel
theorem dX12_head_149 : decode cX12_head 149 = .ok (.return_, 1) := by decide +kernel
theorem dX12_head_150 : decode cX12_head 150 = .ok (.aload_n 0, 1) := by decide +kernel
theorem dX12_head_151 : decode cX12_head 151 = .ok (.getfield 119, 3) := by decide +kernel
theorem dX12_head_154 : decode cX12_head 154 = .ok (.aload_n 0, 1) := by decide +kernel
theorem dX12_head_155 : decode cX12_head 155 = .ok (.getfield 116, 3) := by decide +kernel
theorem dX12_head_158 : decode cX12_head 158 = .ok (.aload_n 0, 1) := by decide +kernel
theorem dX12_head_159 : decode cX12_head 159 = .ok (.getfield 93, 3) := by decide +kernel
theorem dX12_head_162 : decode cX12_head 162 = .ok (.lastore, 1) := by decide +kernel
theorem dX12_head_163 : decode cX12_head 163 = .ok (.aload_n 0, 1) := by decide +kernel
theorem dX12_head_164 : decode cX12_head 164 = .ok (.getfield 123, 3) := by decide +kernel
theorem dX12_head_167 : decode cX12_head 167 = .ok (.aload_n 0, 1) := by decide +kernel
theorem dX12_head_168 : decode cX12_head 168 = .ok (.getfield 116, 3) := by decide +kernel
theorem dX12_head_171 : decode cX12_head 171 = .ok (.aload_n 0, 1) := by decide +kernel
theorem dX12_head_172 : decode cX12_head 172 = .ok (.getfield 97, 3) := by decide +kernel
theorem dX12_head_175 : decode cX12_head 175 = .ok (.lastore, 1) := by decide +kernel
theorem dX12_head_176 : decode cX12_head 176 = .ok (.aload_n 0, 1) := by decide +kernel
theorem dX12_head_177 : decode cX12_head 177 = .ok (.dup, 1) := by decide +kernel
theorem dX12_head_178 : decode cX12_head 178 = .ok (.getfield 116, 3) := by decide +kernel
theorem dX12_head_181 : decode cX12_head 181 = .ok (.iconst 1, 1) := by decide +kernel
theorem dX12_head_182 : decode cX12_head 182 = .ok (.iadd, 1) := by decide +kernel
theorem dX12_head_183 : decode cX12_head 183 = .ok (.putfield 116, 3) := by decide +kernel
theorem dX12_head_186 : decode cX12_head 186 = .ok (.aload_n 0, 1) := by decide +kernel
theorem dX12_head_187 : decode cX12_head 187 = .ok (.invokevirtual 211, 3) := by decide +kernel
theorem dX12_head_190 : decode cX12_head 190 = .ok (.goto (-115), 3) := by decide +kernel
theorem dX12_head_193 : decode cX12_head 193 = .ok (.aload_n 0, 1) := by decide +kernel
theorem dX12_head_194 : decode cX12_head 194 = .ok (.getfield 41, 3) := by decide +kernel
theorem dX12_head_197 : decode cX12_head 197 = .ok (.ifCond .eq 4, 3) := by decide +kernel
theorem dX12_head_200 : decode cX12_head 200 = .ok (.return_, 1) := by decide +kernel
theorem dX12_head_201 : decode cX12_head 201 = .ok (.aload_n 0, 1) := by decide +kernel
theorem dX12_head_202 : decode cX12_head 202 = .ok (.bipush 61, 2) := by decide +kernel
theorem dX12_head_204 : decode cX12_head 204 = .ok (.invokevirtual 197, 3) := by decide +kernel
theorem dX12_head_207 : decode cX12_head 207 = .ok (.ifCond .ne 15, 3) := by decide +kernel
theorem dX12_head_210 : decode cX12_head 210 = .ok (.aload_n 0, 1) := by decide +kernel
theorem dX12_head_211 : decode cX12_head 211 = .ok (.iconst 1, 1) := by decide +kernel
theorem dX12_head_212 : decode cX12_head 212 = .ok (.aload_n 0, 1) := by decide +kernel
theorem dX12_head_213 : decode cX12_head 213 = .ok (.getfield 58, 3) := by decide +kernel
theorem dX12_head_216 : decode cX12_head 216 = .ok (.invokevirtual 237, 3) := by decide +kernel
theorem dX12_head_219 : decode cX12_head 219 = .ok (.goto 7, 3) := by decide +kernel
theorem dX12_head_222 : decode cX12_head 222 = .ok (.aload_n 0, 1) := by decide +kernel
theorem dX12_head_223 : decode cX12_head 223 = .ok (.invokevirtual 211, 3) := by decide +kernel
theorem dX12_head_226 : decode cX12_head 226 = .ok (.return_, 1) := by decide +kernel
theorem dX12_line_0 : decode cX12_line 0 = .ok (.aload_n 0, 1) := by decide +kernel
theorem dX12_line_1 : decode cX12_line 1 = .ok (.getfield 1, 3) := by decide +kernel
theorem dX12_line_4 : decode cX12_line 4 = .ok (.istore_n 1, 1) := by decide +kernel
theorem dX12_line_5 : decode cX12_line 5 = .ok (.aload_n 0, 1) := by decide +kernel
theorem dX12_line_6 : decode cX12_line 6 = .ok (.invokevirtual 825, 3) := by decide +kernel
theorem dX12_line_9 : decode cX12_line 9 = .ok (.aload_n 0, 1) := by decide +kernel
theorem dX12_line_10 : decode cX12_line 10 = .ok (.getfield 41, 3) := by decide +kernel
theorem dX12_line_13 : decode cX12_line 13 = .ok (.ifCond .eq 4, 3) := by decide +kernel
theorem dX12_line_16 : decode cX12_line 16 = .ok (.return_, 1) := by decide +kernel
theorem dX12_line_17 : decode cX12_line 17 = .ok (.aload_n 0, 1) := by decide +kernel
theorem dX12_line_18 : decode cX12_line 18 = .ok (.invokevirtual 828, 3) := by decide +kernel
theorem dX12_line_21 : decode cX12_line 21 = .ok (.aload_n 0, 1) := by decide +kernel
theorem dX12_line_22 : decode cX12_line 22 = .ok (.getfield 41, 3) := by decide +kernel
theorem dX12_line_25 : decode cX12_line 25 = .ok (.ifCond .ne 27, 3) := by decide +kernel
theorem dX12_line_28 : decode cX12_line 28 = .ok (.aload_n 0, 1) := by decide +kernel
theorem dX12_line_29 : decode cX12_line 29 = .ok (.getfield 68, 3) := by decide +kernel
theorem dX12_line_32 : decode cX12_line 32 = .ok (.iconst 1, 1) := by decide +kernel
theorem dX12_line_33 : decode cX12_line 33 = .ok (.if_icmp .eq 19, 3) := by decide +kernel
theorem dX12_line_36 : decode cX12_line 36 = .ok (.aload_n 0, 1) := by decide +kernel
theorem dX12_line_37 : decode cX12_line 37 = .ok (.getfield 68, 3) := by decide +kernel
theorem dX12_line_40 : decode cX12_line 40 = .ok (.ifCond .eq 12, 3) := by decide +kernel
theorem dX12_line_43 : decode cX12_line 43 = .ok (.aload_n 0, 1) := by decide +kernel
theorem dX12_line_44 : decode cX12_line 44 = .ok (.iconst 1, 1) := by decide +kernel
theorem dX12_line_45 : decode cX12_line 45 = .ok (.aload_n 0, 1) := by decide +kernel
theorem dX12_line_46 : decode cX12_line 46 = .ok (.getfield 58, 3) := by decide +kernel
theorem dX12_line_49 : decode cX12_line 49 = .ok (.invokevirtual 237, 3) := by decide +kernel
theorem dX12_line_52 : decode cX12_line 52 = .ok (.aload_n 0, 1) := by decide +kernel
theorem dX12_line_53 : decode cX12_line 53 = .ok (.getfield 41, 3) := by decide +kernel
theorem dX12_line_56 : decode cX12_line 56 = .ok (.ifCond .eq 4, 3) := by decide +kernel
theorem dX12_line_59 : decode cX12_line 59 = .ok (.return_, 1) := by decide +kernel
theorem dX12_line_60 : decode cX12_line 60 = .ok (.aload_n 0, 1) := by decide +kernel
theorem dX12_line_61 : decode cX12_line 61 = .ok (.getfield 816, 3) := by decide +kernel
theorem dX12_line_64 : decode cX12_line 64 = .ok (.istore_n 2, 1) := by decide +kernel
theorem dX12_line_65 : decode cX12_line 65 = .ok (.aload_n 0, 1) := by decide +kernel
theorem dX12_line_66 : decode cX12_line 66 = .ok (.getfield 231, 3) := by decide +kernel
theorem dX12_line_69 : decode cX12_line 69 = .ok (.iload_n 2, 1) := by decide +kernel
theorem dX12_line_70 : decode cX12_line 70 = .ok (.aload_n 0, 1) := by decide +kernel
theorem dX12_line_71 : decode cX12_line 71 = .ok (.getfield 116, 3) := by decide +kernel
theorem dX12_line_74 : decode cX12_line 74 = .ok (.iastore, 1) := by decide +kernel
theorem dX12_line_75 : decode cX12_line 75 = .ok (.aload_n 0, 1) := by decide +kernel
theorem dX12_line_76 : decode cX12_line 76 = .ok (.getfield 505, 3) := by decide +kernel
theorem dX12_line_79 : decode cX12_line 79 = .ok (.iload_n 2, 1) := by decide +kernel
theorem dX12_line_80 : decode cX12_line 80 = .ok (.aload_n 0, 1) := by decide +kernel
theorem dX12_line_81 : decode cX12_line 81 = .ok (.getfield 153, 3) := by decide +kernel
theorem dX12_line_84 : decode cX12_line 84 = .ok (.iastore, 1) := by decide +kernel
theorem dX12_line_85 : decode cX12_line 85 = .ok (.aload_n 0, 1) := by decide +kernel
theorem dX12_line_86 : decode cX12_line 86 = .ok (.getfield 249, 3) := by decide +kernel
theorem dX12_line_89 : decode cX12_line 89 = .ok (.iload_n 2, 1) := by decide +kernel
theorem dX12_line_90 : decode cX12_line 90 = .ok (.iconst (-1), 1) := by decide +kernel
theorem dX12_line_91 : decode cX12_line 91 = .ok (.iastore, 1) := by decide +kernel
theorem dX12_line_92 : decode cX12_line 92 = .ok (.aload_n 0, 1) := by decide +kernel
theorem dX12_line_93 : decode cX12_line 93 = .ok (.getfield 116, 3) := by decide +kernel
theorem dX12_line_96 : decode cX12_line 96 = .ok (.ifCond .ne 22, 3) := by decide +kernel
theorem dX12_line_99 : decode cX12_line 99 = .ok (.aload_n 0, 1) := by decide +kernel
theorem dX12_line_100 : decode cX12_line 100 = .ok (.getfield 249, 3) := by decide +kernel
theorem dX12_line_103 : decode cX12_line 103 = .ok (.iload_n 2, 1) := by decide +kernel
theorem dX12_line_104 : decode cX12_line 104 = .ok (.aload_n 0, 1) := by decide +kernel
theorem dX12_line_105 : decode cX12_line 105 = .ok (.aload_n 0, 1) := by decide +kernel
theorem dX12_line_106 : decode cX12_line 106 = .ok (.getfield 153, 3) := by decide +kernel
theorem dX12_line_109 : decode cX12_line 109 = .ok (.invokevirtual 831, 3) := by decide +kernel
theorem dX12_line_112 : decode cX12_line 112 = .ok (.iastore, 1) := by decide +kernel
theorem dX12_line_113 : decode cX12_line 113 = .ok (.aload_n 0, 1) := by decide +kernel
theorem dX12_line_114 : decode cX12_line 114 = .ok (.iload_n 1, 1) := by decide +kernel
theorem dX12_line_115 : decode cX12_line 115 = .ok (.putfield 1, 3) := by decide +kernel
theorem dX12_line_118 : decode cX12_line 118 = .ok (.aload_n 0, 1) := by decide +kernel
theorem dX12_line_119 : decode cX12_line 119 = .ok (.getfield 41, 3) := by decide +kernel
theorem dX12_line_122 : decode cX12_line 122 = .ok (.ifCond .eq 4, 3) := by decide +kernel
theorem dX12_line_125 : decode cX12_line 125 = .ok (.return_, 1) := by decide +kernel
theorem dX12_line_126 : decode cX12_line 126 = .ok (.aload_n 0, 1) := by decide +kernel
theorem dX12_line_127 : decode cX12_line 127 = .ok (.dup, 1) := by decide +kernel
theorem dX12_line_128 : decode cX12_line 128 = .ok (.getfield 816, 3) := by decide +kernel
theorem dX12_line_131 : decode cX12_line 131 = .ok (.iconst 1, 1) := by decide +kernel
theorem dX12_line_132 : decode cX12_line 132 = .ok (.iadd, 1) := by decide +kernel
theorem dX12_line_133 : decode cX12_line 133 = .ok (.putfield 816, 3) := by decide +kernel
theorem dX12_line_136 : decode cX12_line 136 = .ok (.iconst 0, 1) := by decide +kernel
theorem dX12_line_137 : decode cX12_line 137 = .ok (.istore_n 3, 1) := by decide +kernel
theorem dX12_line_138 : decode cX12_line 138 = .ok (.iload_n 3, 1) := by decide +kernel
theorem dX12_line_139 : decode cX12_line 139 = .ok (.aload_n 0, 1) := by decide +kernel
theorem dX12_line_140 : decode cX12_line 140 = .ok (.getfield 126, 3) := by decide +kernel
theorem dX12_line_143 : decode cX12_line 143 = .ok (.if_icmp .ge 51, 3) := by decide +kernel
theorem dX12_line_146 : decode cX12_line 146 = .ok (.aload_n 0, 1) := by decide +kernel
theorem dX12_line_147 : decode cX12_line 147 = .ok (.getfield 129, 3) := by decide +kernel
theorem dX12_line_150 : decode cX12_line 150 = .ok (.aload_n 0, 1) := by decide +kernel
theorem dX12_line_151 : decode cX12_line 151 = .ok (.getfield 132, 3) := by decide +kernel
theorem dX12_line_154 : decode cX12_line 154 = .ok (.iload_n 3, 1) := by decide +kernel
theorem dX12_line_155 : decode cX12_line 155 = .ok (.iaload, 1) := by decide +kernel
theorem dX12_line_156 : decode cX12_line 156 = .ok (.laload, 1) := by decide +kernel
theorem dX12_line_157 : decode cX12_line 157 = .ok (.aload_n 0, 1) := by decide +kernel
theorem dX12_line_158 : decode cX12_line 158 = .ok (.getfield 129, 3) := by decide +kernel
theorem dX12_line_161 : decode cX12_line 161 = .ok (.iload_n 2, 1) := by decide +kernel
theorem dX12_line_162 : decode cX12_line 162 = .ok (.laload, 1) := by decide +kernel
theorem dX12_line_163 : decode cX12_line 163 = .ok (.lcmp, 1) := by decide +kernel
theorem dX12_line_164 : decode cX12_line 164 = .ok (.ifCond .ne 24, 3) := by decide +kernel
theorem dX12_line_167 : decode cX12_line 167 = .ok (.aload_n 0, 1) := by decide +kernel
theorem dX12_line_168 : decode cX12_line 168 = .ok (.getfield 135, 3) := by decide +kernel
theorem dX12_line_171 : decode cX12_line 171 = .ok (.aload_n 0, 1) := by decide +kernel
theorem dX12_line_172 : decode cX12_line 172 = .ok (.getfield 132, 3) := by decide +kernel
theorem dX12_line_175 : decode cX12_line 175 = .ok (.iload_n 3, 1) := by decide +kernel
theorem dX12_line_176 : decode cX12_line 176 = .ok (.iaload, 1) := by decide +kernel
theorem dX12_line_177 : decode cX12_line 177 = .ok (.laload, 1) := by decide +kernel
theorem dX12_line_178 : decode cX12_line 178 = .ok (.aload_n 0, 1) := by decide +kernel
theorem dX12_line_179 : decode cX12_line 179 = .ok (.getfield 135, 3) := by decide +kernel
theorem dX12_line_182 : decode cX12_line 182 = .ok (.iload_n 2, 1) := by decide +kernel
theorem dX12_line_183 : decode cX12_line 183 = .ok (.laload, 1) := by decide +kernel
theorem dX12_line_184 : decode cX12_line 184 = .ok (.lcmp, 1) := by decide +kernel
theorem dX12_line_185 : decode cX12_line 185 = .ok (.ifCond .eq 9, 3) := by decide +kernel
theorem dX12_line_188 : decode cX12_line 188 = .ok (.iinc 3 1, 3) := by decide +kernel
theorem dX12_line_191 : decode cX12_line 191 = .ok (.goto (-53), 3) := by decide +kernel
theorem dX12_line_194 : decode cX12_line 194 = .ok (.aload_n 0, 1) := by decide +kernel
theorem dX12_line_195 : decode cX12_line 195 = .ok (.getfield 132, 3) := by decide +kernel
theorem dX12_line_198 : decode cX12_line 198 = .ok (.iload_n 3, 1) := by decide +kernel
theorem dX12_line_199 : decode cX12_line 199 = .ok (.iload_n 2, 1) := by decide +kernel
theorem dX12_line_200 : decode cX12_line 200 = .ok (.iastore, 1) := by decide +kernel
theorem dX12_line_201 : decode cX12_line 201 = .ok (.iload_n 3, 1) := by decide +kernel
theorem dX12_line_202 : decode cX12_line 202 = .ok (.aload_n 0, 1) := by decide +kernel
theorem dX12_line_203 : decode cX12_line 203 = .ok (.getfield 126, 3) := by decide +kernel
theorem dX12_line_206 : decode cX12_line 206 = .ok (.if_icmp .ne 13, 3) := by decide +kernel
theorem dX12_line_209 : decode cX12_line 209 = .ok (.aload_n 0, 1) := by decide +kernel
theorem dX12_line_210 : decode cX12_line 210 = .ok (.dup, 1) := by decide +kernel
theorem dX12_line_211 : decode cX12_line 211 = .ok (.getfield 126, 3) := by decide +kernel
theorem dX12_line_214 : decode cX12_line 214 = .ok (.iconst 1, 1) := by decide +kernel
theorem dX12_line_215 : decode cX12_line 215 = .ok (.iadd, 1) := by decide +kernel
theorem dX12_line_216 : decode cX12_line 216 = .ok (.putfield 126, 3) := by decide +kernel
theorem dX12_line_219 : decode cX12_line 219 = .ok (.return_, 1) := by decide +kernel
theorem dX12_read_0 : decode cX12_read 0 = .ok (.aload_n 0, 1) := by decide +kernel
theorem dX12_read_1 : decode cX12_read 1 = .ok (.invokevirtual 834, 3) := by decide +kernel
theorem dX12_read_4 : decode cX12_read 4 = .ok (.aload_n 0, 1) := by decide +kernel
theorem dX12_read_5 : decode cX12_read 5 = .ok (.getfield 41, 3) := by decide +kernel
theorem dX12_read_8 : decode cX12_read 8 = .ok (.ifCond .ne 32, 3) := by decide +kernel
theorem dX12_read_11 : decode cX12_read 11 = .ok (.aload_n 0, 1) := by decide +kernel
theorem dX12_read_12 : decode cX12_read 12 = .ok (.getfield 68, 3) := by decide +kernel
theorem dX12_read_15 : decode cX12_read 15 = .ok (.ifCond .eq 25, 3) := by decide +kernel
theorem dX12_read_18 : decode cX12_read 18 = .ok (.aload_n 0, 1) := by decide +kernel
theorem dX12_read_19 : decode cX12_read 19 = .ok (.getfield 68, 3) := by decide +kernel
theorem dX12_read_22 : decode cX12_read 22 = .ok (.iconst 1, 1) := by decide +kernel
theorem dX12_read_23 : decode cX12_read 23 = .ok (.if_icmp .ne 10, 3) := by decide +kernel
theorem dX12_read_26 : decode cX12_read 26 = .ok (.aload_n 0, 1) := by decide +kernel
theorem dX12_read_27 : decode cX12_read 27 = .ok (.invokevirtual 211, 3) := by decide +kernel
theorem dX12_read_30 : decode cX12_read 30 = .ok (.goto (-26), 3) := by decide +kernel
theorem dX12_read_33 : decode cX12_read 33 = .ok (.aload_n 0, 1) := by decide +kernel
theorem dX12_read_34 : decode cX12_read 34 = .ok (.invokevirtual 837, 3) := by decide +kernel
theorem dX12_read_37 : decode cX12_read 37 = .ok (.goto (-33), 3) := by decide +kernel
theorem dX12_read_40 : decode cX12_read 40 = .ok (.aload_n 0, 1) := by decide +kernel
theorem dX12_read_41 : decode cX12_read 41 = .ok (.getfield 41, 3) := by decide +kernel
theorem dX12_read_44 : decode cX12_read 44 = .ok (.ifCond .ne 19, 3) := by decide +kernel
theorem dX12_read_47 : decode cX12_read 47 = .ok (.aload_n 0, 1) := by decide +kernel
theorem dX12_read_48 : decode cX12_read 48 = .ok (.getfield 126, 3) := by decide +kernel
theorem dX12_read_51 : decode cX12_read 51 = .ok (.bipush 40, 2) := by decide +kernel
theorem dX12_read_53 : decode cX12_read 53 = .ok (.if_icmp .le 10, 3) := by decide +kernel
theorem dX12_read_56 : decode cX12_read 56 = .ok (.aload_n 0, 1) := by decide +kernel
theorem dX12_read_57 : decode cX12_read 57 = .ok (.bipush 11, 2) := by decide +kernel
theorem dX12_read_59 : decode cX12_read 59 = .ok (.iconst (-1), 1) := by decide +kernel
theorem dX12_read_60 : decode cX12_read 60 = .ok (.invokevirtual 237, 3) := by decide +kernel
theorem dX12_read_63 : decode cX12_read 63 = .ok (.aload_n 0, 1) := by decide +kernel
theorem dX12_read_64 : decode cX12_read 64 = .ok (.getfield 41, 3) := by decide +kernel
theorem dX12_read_67 : decode cX12_read 67 = .ok (.ifCond .ne 39, 3) := by decide +kernel
theorem dX12_read_70 : decode cX12_read 70 = .ok (.aload_n 0, 1) := by decide +kernel
theorem dX12_read_71 : decode cX12_read 71 = .ok (.aload_n 0, 1) := by decide +kernel
theorem dX12_read_72 : decode cX12_read 72 = .ok (.getfield 126, 3) := by decide +kernel
theorem dX12_read_75 : decode cX12_read 75 = .ok (.putfield 822, 3) := by decide +kernel
theorem dX12_read_78 : decode cX12_read 78 = .ok (.iconst 0, 1) := by decide +kernel
theorem dX12_read_79 : decode cX12_read 79 = .ok (.istore_n 1, 1) := by decide +kernel
theorem dX12_read_80 : decode cX12_read 80 = .ok (.iload_n 1, 1) := by decide +kernel
theorem dX12_read_81 : decode cX12_read 81 = .ok (.aload_n 0, 1) := by decide +kernel
theorem dX12_read_82 : decode cX12_read 82 = .ok (.getfield 822, 3) := by decide +kernel
theorem dX12_read_85 : decode cX12_read 85 = .ok (.if_icmp .ge 21, 3) := by decide +kernel
theorem dX12_read_88 : decode cX12_read 88 = .ok (.aload_n 0, 1) := by decide +kernel
theorem dX12_read_89 : decode cX12_read 89 = .ok (.getfield 708, 3) := by decide +kernel
theorem dX12_read_92 : decode cX12_read 92 = .ok (.iload_n 1, 1) := by decide +kernel
theorem dX12_read_93 : decode cX12_read 93 = .ok (.aload_n 0, 1) := by decide +kernel
theorem dX12_read_94 : decode cX12_read 94 = .ok (.getfield 132, 3) := by decide +kernel
theorem dX12_read_97 : decode cX12_read 97 = .ok (.iload_n 1, 1) := by decide +kernel
theorem dX12_read_98 : decode cX12_read 98 = .ok (.iaload, 1) := by decide +kernel
theorem dX12_read_99 : decode cX12_read 99 = .ok (.iastore, 1) := by decide +kernel
theorem dX12_read_100 : decode cX12_read 100 = .ok (.iinc 1 1, 3) := by decide +kernel
theorem dX12_read_103 : decode cX12_read 103 = .ok (.goto (-23), 3) := by decide +kernel
theorem dX12_read_106 : decode cX12_read 106 = .ok (.aload_n 0, 1) := by decide +kernel
theorem dX12_read_107 : decode cX12_read 107 = .ok (.invokevirtual 840, 3) := by decide +kernel
theorem dX12_read_110 : decode cX12_read 110 = .ok (.ireturn, 1) := by decide +kernel
theorem dX12_hang_0 : decode cX12_hang 0 = .ok (.iload_n 1, 1) := by decide +kernel
theorem dX12_hang_1 : decode cX12_hang 1 = .ok (.ifCond .lt 9, 3) := by decide +kernel
theorem dX12_hang_4 : decode cX12_hang 4 = .ok (.iload_n 1, 1) := by decide +kernel
theorem dX12_hang_5 : decode cX12_hang 5 = .ok (.bipush 8, 2) := by decide +kernel
theorem dX12_hang_7 : decode cX12_hang 7 = .ok (.if_icmp .lt 5, 3) := by decide +kernel
theorem dX12_hang_10 : decode cX12_hang 10 = .ok (.iconst (-1), 1) := by decide +kernel
theorem dX12_hang_11 : decode cX12_hang 11 = .ok (.ireturn, 1) := by decide +kernel
theorem dX12_hang_12 : decode cX12_hang 12 = .ok (.aload_n 0, 1) := by decide +kernel
theorem dX12_hang_13 : decode cX12_hang 13 = .ok (.invokevirtual 834, 3) := by decide +kernel
theorem dX12_hang_16 : decode cX12_hang 16 = .ok (.aload_n 0, 1) := by decide +kernel
theorem dX12_hang_17 : decode cX12_hang 17 = .ok (.invokevirtual 828, 3) := by decide +kernel
theorem dX12_hang_20 : decode cX12_hang 20 = .ok (.aload_n 0, 1) := by decide +kernel
theorem dX12_hang_21 : decode cX12_hang 21 = .ok (.getfield 41, 3) := by decide +kernel
theorem dX12_hang_24 : decode cX12_hang 24 = .ok (.ifCond .ne 18, 3) := by decide +kernel
theorem dX12_hang_27 : decode cX12_hang 27 = .ok (.aload_n 0, 1) := by decide +kernel
theorem dX12_hang_28 : decode cX12_hang 28 = .ok (.getfield 68, 3) := by decide +kernel
theorem dX12_hang_31 : decode cX12_hang 31 = .ok (.iconst 1, 1) := by decide +kernel
theorem dX12_hang_32 : decode cX12_hang 32 = .ok (.if_icmp .ne 10, 3) := by decide +kernel
theorem dX12_hang_35 : decode cX12_hang 35 = .ok (.aload_n 0, 1) := by decide +kernel
theorem dX12_hang_36 : decode cX12_hang 36 = .ok (.invokevirtual 211, 3) := by decide +kernel
theorem dX12_hang_39 : decode cX12_hang 39 = .ok (.goto (-19), 3) := by decide +kernel
theorem dX12_hang_42 : decode cX12_hang 42 = .ok (.aload_n 0, 1) := by decide +kernel
theorem dX12_hang_43 : decode cX12_hang 43 = .ok (.getfield 41, 3) := by decide +kernel
theorem dX12_hang_46 : decode cX12_hang 46 = .ok (.ifCond .ne 19, 3) := by decide +kernel
theorem dX12_hang_49 : decode cX12_hang 49 = .ok (.aload_n 0, 1) := by decide +kernel
theorem dX12_hang_50 : decode cX12_hang 50 = .ok (.getfield 68, 3) := by decide +kernel
theorem dX12_hang_53 : decode cX12_hang 53 = .ok (.ifCond .eq 12, 3) := by decide +kernel
theorem dX12_hang_56 : decode cX12_hang 56 = .ok (.aload_n 0, 1) := by decide +kernel
theorem dX12_hang_57 : decode cX12_hang 57 = .ok (.iconst 1, 1) := by decide +kernel
theorem dX12_hang_58 : decode cX12_hang 58 = .ok (.aload_n 0, 1) := by decide +kernel
theorem dX12_hang_59 : decode cX12_hang 59 = .ok (.getfield 58, 3) := by decide +kernel
theorem dX12_hang_62 : decode cX12_hang 62 = .ok (.invokevirtual 237, 3) := by decide +kernel
theorem dX12_hang_65 : decode cX12_hang 65 = .ok (.aload_n 0, 1) := by decide +kernel
theorem dX12_hang_66 : decode cX12_hang 66 = .ok (.getfield 41, 3) := by decide +kernel
theorem dX12_hang_69 : decode cX12_hang 69 = .ok (.ifCond .ne 14, 3) := by decide +kernel
theorem dX12_hang_72 : decode cX12_hang 72 = .ok (.aload_n 0, 1) := by decide +kernel
theorem dX12_hang_73 : decode cX12_hang 73 = .ok (.aload_n 0, 1) := by decide +kernel
theorem dX12_hang_74 : decode cX12_hang 74 = .ok (.getfield 153, 3) := by decide +kernel
theorem dX12_hang_77 : decode cX12_hang 77 = .ok (.invokevirtual 831, 3) := by decide +kernel
theorem dX12_hang_80 : decode cX12_hang 80 = .ok (.goto 4, 3) := by decide +kernel
theorem dX12_hang_83 : decode cX12_hang 83 = .ok (.iconst (-1), 1) := by decide +kernel
theorem dX12_hang_84 : decode cX12_hang 84 = .ok (.istore_n 2, 1) := by decide +kernel
theorem dX12_hang_85 : decode cX12_hang 85 = .ok (.aload_n 0, 1) := by decide +kernel
theorem dX12_hang_86 : decode cX12_hang 86 = .ok (.aload_n 0, 1) := by decide +kernel
theorem dX12_hang_87 : decode cX12_hang 87 = .ok (.getfield 807, 3) := by decide +kernel
theorem dX12_hang_90 : decode cX12_hang 90 = .ok (.putfield 1, 3) := by decide +kernel
theorem dX12_hang_93 : decode cX12_hang 93 = .ok (.aload_n 0, 1) := by decide +kernel
theorem dX12_hang_94 : decode cX12_hang 94 = .ok (.getfield 41, 3) := by decide +kernel
theorem dX12_hang_97 : decode cX12_hang 97 = .ok (.ifCond .ne 9, 3) := by decide +kernel
theorem dX12_hang_100 : decode cX12_hang 100 = .ok (.aload_n 0, 1) := by decide +kernel
theorem dX12_hang_101 : decode cX12_hang 101 = .ok (.iload_n 1, 1) := by decide +kernel
theorem dX12_hang_102 : decode cX12_hang 102 = .ok (.iload_n 2, 1) := by decide +kernel
theorem dX12_hang_103 : decode cX12_hang 103 = .ok (.invokevirtual 843, 3) := by decide +kernel
theorem dX12_hang_106 : decode cX12_hang 106 = .ok (.aload_n 0, 1) := by decide +kernel
theorem dX12_hang_107 : decode cX12_hang 107 = .ok (.invokevirtual 840, 3) := by decide +kernel
theorem dX12_hang_110 : decode cX12_hang 110 = .ok (.ireturn, 1) := by decide +kernel
theorem dX12_becomes_0 : decode cX12_becomes 0 = .ok (.aload_n 0, 1) := by decide +kernel
theorem dX12_becomes_1 : decode cX12_becomes 1 = .ok (.getfield 846, 3) := by decide +kernel
theorem dX12_becomes_4 : decode cX12_becomes 4 = .ok (.ifCond .ne 21, 3) := by decide +kernel
theorem dX12_becomes_7 : decode cX12_becomes 7 = .ok (.aload_n 0, 1) := by decide +kernel
theorem dX12_becomes_8 : decode cX12_becomes 8 = .ok (.getfield 713, 3) := by decide +kernel
theorem dX12_becomes_11 : decode cX12_becomes 11 = .ok (.iload_n 1, 1) := by decide +kernel
theorem dX12_becomes_12 : decode cX12_becomes 12 = .ok (.iload_n 2, 1) := by decide +kernel
theorem dX12_becomes_13 : decode cX12_becomes 13 = .ok (.iastore, 1) := by decide +kernel
theorem dX12_becomes_14 : decode cX12_becomes 14 = .ok (.aload_n 0, 1) := by decide +kernel
theorem dX12_becomes_15 : decode cX12_becomes 15 = .ok (.getfield 716, 3) := by decide +kernel
theorem dX12_becomes_18 : decode cX12_becomes 18 = .ok (.iload_n 1, 1) := by decide +kernel
theorem dX12_becomes_19 : decode cX12_becomes 19 = .ok (.bipush (-2), 2) := by decide +kernel
theorem dX12_becomes_21 : decode cX12_becomes 21 = .ok (.iastore, 1) := by decide +kernel
theorem dX12_becomes_22 : decode cX12_becomes 22 = .ok (.goto 10, 3) := by decide +kernel
theorem dX12_becomes_25 : decode cX12_becomes 25 = .ok (.aload_n 0, 1) := by decide +kernel
theorem dX12_becomes_26 : decode cX12_becomes 26 = .ok (.getfield 716, 3) := by decide +kernel
theorem dX12_becomes_29 : decode cX12_becomes 29 = .ok (.iload_n 1, 1) := by decide +kernel
theorem dX12_becomes_30 : decode cX12_becomes 30 = .ok (.iload_n 2, 1) := by decide +kernel
theorem dX12_becomes_31 : decode cX12_becomes 31 = .ok (.iastore, 1) := by decide +kernel
theorem dX12_becomes_32 : decode cX12_becomes 32 = .ok (.return_, 1) := by decide +kernel
theorem dX12_hush_0 : decode cX12_hush 0 = .ok (.iload_n 1, 1) := by decide +kernel
theorem dX12_hush_1 : decode cX12_hush 1 = .ok (.ifCond .lt 9, 3) := by decide +kernel
theorem dX12_hush_4 : decode cX12_hush 4 = .ok (.iload_n 1, 1) := by decide +kernel
theorem dX12_hush_5 : decode cX12_hush 5 = .ok (.bipush 8, 2) := by decide +kernel
theorem dX12_hush_7 : decode cX12_hush 7 = .ok (.if_icmp .lt 5, 3) := by decide +kernel
theorem dX12_hush_10 : decode cX12_hush 10 = .ok (.iconst 0, 1) := by decide +kernel
theorem dX12_hush_11 : decode cX12_hush 11 = .ok (.ireturn, 1) := by decide +kernel
theorem dX12_hush_12 : decode cX12_hush 12 = .ok (.aload_n 0, 1) := by decide +kernel
theorem dX12_hush_13 : decode cX12_hush 13 = .ok (.iload_n 1, 1) := by decide +kernel
theorem dX12_hush_14 : decode cX12_hush 14 = .ok (.iconst (-1), 1) := by decide +kernel
theorem dX12_hush_15 : decode cX12_hush 15 = .ok (.invokevirtual 843, 3) := by decide +kernel
theorem dX12_hush_18 : decode cX12_hush 18 = .ok (.iconst 1, 1) := by decide +kernel
theorem dX12_hush_19 : decode cX12_hush 19 = .ok (.ireturn, 1) := by decide +kernel
theorem dX12_told_0 : decode cX12_told 0 = .ok (.iload_n 1, 1) := by decide +kernel
theorem dX12_told_1 : decode cX12_told 1 = .ok (.ifCond .ne 10, 3) := by decide +kernel
theorem dX12_told_4 : decode cX12_told 4 = .ok (.aload_n 0, 1) := by decide +kernel
theorem dX12_told_5 : decode cX12_told 5 = .ok (.getfield 726, 3) := by decide +kernel
theorem dX12_told_8 : decode cX12_told 8 = .ok (.goto 28, 3) := by decide +kernel
theorem dX12_told_11 : decode cX12_told 11 = .ok (.iload_n 1, 1) := by decide +kernel
theorem dX12_told_12 : decode cX12_told 12 = .ok (.iconst 1, 1) := by decide +kernel
theorem dX12_told_13 : decode cX12_told 13 = .ok (.if_icmp .ne 10, 3) := by decide +kernel
theorem dX12_told_16 : decode cX12_told 16 = .ok (.aload_n 0, 1) := by decide +kernel
theorem dX12_told_17 : decode cX12_told 17 = .ok (.getfield 729, 3) := by decide +kernel
theorem dX12_told_20 : decode cX12_told 20 = .ok (.goto 16, 3) := by decide +kernel
theorem dX12_told_23 : decode cX12_told 23 = .ok (.iload_n 1, 1) := by decide +kernel
theorem dX12_told_24 : decode cX12_told 24 = .ok (.iconst 2, 1) := by decide +kernel
theorem dX12_told_25 : decode cX12_told 25 = .ok (.if_icmp .ne 10, 3) := by decide +kernel
theorem dX12_told_28 : decode cX12_told 28 = .ok (.aload_n 0, 1) := by decide +kernel
theorem dX12_told_29 : decode cX12_told 29 = .ok (.getfield 732, 3) := by decide +kernel
theorem dX12_told_32 : decode cX12_told 32 = .ok (.goto 4, 3) := by decide +kernel
theorem dX12_told_35 : decode cX12_told 35 = .ok (.iconst (-1), 1) := by decide +kernel
theorem dX12_told_36 : decode cX12_told 36 = .ok (.ireturn, 1) := by decide +kernel
theorem dX12_isTrack_0 : decode cX12_isTrack 0 = .ok (.iload_n 1, 1) := by decide +kernel
theorem dX12_isTrack_1 : decode cX12_isTrack 1 = .ok (.ifCond .lt 13, 3) := by decide +kernel
theorem dX12_isTrack_4 : decode cX12_isTrack 4 = .ok (.iload_n 1, 1) := by decide +kernel
theorem dX12_isTrack_5 : decode cX12_isTrack 5 = .ok (.bipush 8, 2) := by decide +kernel
theorem dX12_isTrack_7 : decode cX12_isTrack 7 = .ok (.if_icmp .ge 7, 3) := by decide +kernel
theorem dX12_isTrack_10 : decode cX12_isTrack 10 = .ok (.iconst 1, 1) := by decide +kernel
theorem dX12_isTrack_11 : decode cX12_isTrack 11 = .ok (.goto 4, 3) := by decide +kernel
theorem dX12_isTrack_14 : decode cX12_isTrack 14 = .ok (.iconst 0, 1) := by decide +kernel
theorem dX12_isTrack_15 : decode cX12_isTrack 15 = .ok (.ireturn, 1) := by decide +kernel
theorem dX12_bound_0 : decode cX12_bound 0 = .ok (.aload_n 0, 1) := by decide +kernel
theorem dX12_bound_1 : decode cX12_bound 1 = .ok (.iload_n 1, 1) := by decide +kernel
theorem dX12_bound_2 : decode cX12_bound 2 = .ok (.invokevirtual 849, 3) := by decide +kernel
theorem dX12_bound_5 : decode cX12_bound 5 = .ok (.ifCond .ne 5, 3) := by decide +kernel
theorem dX12_bound_8 : decode cX12_bound 8 = .ok (.iconst (-1), 1) := by decide +kernel
theorem dX12_bound_9 : decode cX12_bound 9 = .ok (.ireturn, 1) := by decide +kernel
theorem dX12_bound_10 : decode cX12_bound 10 = .ok (.aload_n 0, 1) := by decide +kernel
theorem dX12_bound_11 : decode cX12_bound 11 = .ok (.getfield 713, 3) := by decide +kernel
theorem dX12_bound_14 : decode cX12_bound 14 = .ok (.iload_n 1, 1) := by decide +kernel
theorem dX12_bound_15 : decode cX12_bound 15 = .ok (.iaload, 1) := by decide +kernel
theorem dX12_bound_16 : decode cX12_bound 16 = .ok (.istore_n 3, 1) := by decide +kernel
theorem dX12_bound_17 : decode cX12_bound 17 = .ok (.iload_n 3, 1) := by decide +kernel
theorem dX12_bound_18 : decode cX12_bound 18 = .ok (.iconst (-1), 1) := by decide +kernel
theorem dX12_bound_19 : decode cX12_bound 19 = .ok (.if_icmp .ne 5, 3) := by decide +kernel
theorem dX12_bound_22 : decode cX12_bound 22 = .ok (.iconst (-1), 1) := by decide +kernel
theorem dX12_bound_23 : decode cX12_bound 23 = .ok (.ireturn, 1) := by decide +kernel
theorem dX12_bound_24 : decode cX12_bound 24 = .ok (.iload_n 2, 1) := by decide +kernel
theorem dX12_bound_25 : decode cX12_bound 25 = .ok (.tableswitch 70 0 4 #[35, 42, 49, 56, 63], 35) := by decide +kernel
theorem dX12_bound_60 : decode cX12_bound 60 = .ok (.aload_n 0, 1) := by decide +kernel
theorem dX12_bound_61 : decode cX12_bound 61 = .ok (.getfield 351, 3) := by decide +kernel
theorem dX12_bound_64 : decode cX12_bound 64 = .ok (.iload_n 3, 1) := by decide +kernel
theorem dX12_bound_65 : decode cX12_bound 65 = .ok (.iaload, 1) := by decide +kernel
theorem dX12_bound_66 : decode cX12_bound 66 = .ok (.ireturn, 1) := by decide +kernel
theorem dX12_bound_67 : decode cX12_bound 67 = .ok (.aload_n 0, 1) := by decide +kernel
theorem dX12_bound_68 : decode cX12_bound 68 = .ok (.getfield 357, 3) := by decide +kernel
theorem dX12_bound_71 : decode cX12_bound 71 = .ok (.iload_n 3, 1) := by decide +kernel
theorem dX12_bound_72 : decode cX12_bound 72 = .ok (.iaload, 1) := by decide +kernel
theorem dX12_bound_73 : decode cX12_bound 73 = .ok (.ireturn, 1) := by decide +kernel
theorem dX12_bound_74 : decode cX12_bound 74 = .ok (.aload_n 0, 1) := by decide +kernel
theorem dX12_bound_75 : decode cX12_bound 75 = .ok (.getfield 360, 3) := by decide +kernel
theorem dX12_bound_78 : decode cX12_bound 78 = .ok (.iload_n 3, 1) := by decide +kernel
theorem dX12_bound_79 : decode cX12_bound 79 = .ok (.iaload, 1) := by decide +kernel
theorem dX12_bound_80 : decode cX12_bound 80 = .ok (.ireturn, 1) := by decide +kernel
theorem dX12_bound_81 : decode cX12_bound 81 = .ok (.aload_n 0, 1) := by decide +kernel
theorem dX12_bound_82 : decode cX12_bound 82 = .ok (.getfield 363, 3) := by decide +kernel
theorem dX12_bound_85 : decode cX12_bound 85 = .ok (.iload_n 3, 1) := by decide +kernel
theorem dX12_bound_86 : decode cX12_bound 86 = .ok (.iaload, 1) := by decide +kernel
theorem dX12_bound_87 : decode cX12_bound 87 = .ok (.ireturn, 1) := by decide +kernel
theorem dX12_bound_88 : decode cX12_bound 88 = .ok (.aload_n 0, 1) := by decide +kernel
theorem dX12_bound_89 : decode cX12_bound 89 = .ok (.getfield 366, 3) := by decide +kernel
theorem dX12_bound_92 : decode cX12_bound 92 = .ok (.iload_n 3, 1) := by decide +kernel
theorem dX12_bound_93 : decode cX12_bound 93 = .ok (.iaload, 1) := by decide +kernel
theorem dX12_bound_94 : decode cX12_bound 94 = .ok (.ireturn, 1) := by decide +kernel
theorem dX12_bound_95 : decode cX12_bound 95 = .ok (.iconst (-1), 1) := by decide +kernel
theorem dX12_bound_96 : decode cX12_bound 96 = .ok (.ireturn, 1) := by decide +kernel
theorem dX12_ask_0 : decode cX12_ask 0 = .ok (.aload_n 0, 1) := by decide +kernel
theorem dX12_ask_1 : decode cX12_ask 1 = .ok (.iload_n 1, 1) := by decide +kernel
theorem dX12_ask_2 : decode cX12_ask 2 = .ok (.invokevirtual 849, 3) := by decide +kernel
theorem dX12_ask_5 : decode cX12_ask 5 = .ok (.ifCond .eq 17, 3) := by decide +kernel
theorem dX12_ask_8 : decode cX12_ask 8 = .ok (.iload_n 2, 1) := by decide +kernel
theorem dX12_ask_9 : decode cX12_ask 9 = .ok (.sipush (-1000), 3) := by decide +kernel
theorem dX12_ask_12 : decode cX12_ask 12 = .ok (.if_icmp .lt 10, 3) := by decide +kernel
theorem dX12_ask_15 : decode cX12_ask 15 = .ok (.iload_n 2, 1) := by decide +kernel
theorem dX12_ask_16 : decode cX12_ask 16 = .ok (.ldc_w 852, 3) := by decide +kernel
theorem dX12_ask_19 : decode cX12_ask 19 = .ok (.if_icmp .le 5, 3) := by decide +kernel
theorem dX12_ask_22 : decode cX12_ask 22 = .ok (.iconst (-1), 1) := by decide +kernel
theorem dX12_ask_23 : decode cX12_ask 23 = .ok (.ireturn, 1) := by decide +kernel
theorem dX12_ask_24 : decode cX12_ask 24 = .ok (.aload_n 0, 1) := by decide +kernel
theorem dX12_ask_25 : decode cX12_ask 25 = .ok (.getfield 713, 3) := by decide +kernel
theorem dX12_ask_28 : decode cX12_ask 28 = .ok (.iload_n 1, 1) := by decide +kernel
theorem dX12_ask_29 : decode cX12_ask 29 = .ok (.iaload, 1) := by decide +kernel
theorem dX12_ask_30 : decode cX12_ask 30 = .ok (.istore_n 3, 1) := by decide +kernel
theorem dX12_ask_31 : decode cX12_ask 31 = .ok (.iload_n 3, 1) := by decide +kernel
theorem dX12_ask_32 : decode cX12_ask 32 = .ok (.iconst (-1), 1) := by decide +kernel
theorem dX12_ask_33 : decode cX12_ask 33 = .ok (.if_icmp .ne 5, 3) := by decide +kernel
theorem dX12_ask_36 : decode cX12_ask 36 = .ok (.iconst (-1), 1) := by decide +kernel
theorem dX12_ask_37 : decode cX12_ask 37 = .ok (.ireturn, 1) := by decide +kernel
theorem dX12_ask_38 : decode cX12_ask 38 = .ok (.aload_n 0, 1) := by decide +kernel
theorem dX12_ask_39 : decode cX12_ask 39 = .ok (.iload_n 3, 1) := by decide +kernel
theorem dX12_ask_40 : decode cX12_ask 40 = .ok (.iload_n 2, 1) := by decide +kernel
theorem dX12_ask_41 : decode cX12_ask 41 = .ok (.i2l, 1) := by decide +kernel
theorem dX12_ask_42 : decode cX12_ask 42 = .ok (.invokevirtual 853, 3) := by decide +kernel
theorem dX12_ask_45 : decode cX12_ask 45 = .ok (.aload_n 0, 1) := by decide +kernel
theorem dX12_ask_46 : decode cX12_ask 46 = .ok (.aload_n 0, 1) := by decide +kernel
theorem dX12_ask_47 : decode cX12_ask 47 = .ok (.getfield 526, 3) := by decide +kernel
theorem dX12_ask_50 : decode cX12_ask 50 = .ok (.putfield 856, 3) := by decide +kernel
theorem dX12_ask_53 : decode cX12_ask 53 = .ok (.aload_n 0, 1) := by decide +kernel
theorem dX12_ask_54 : decode cX12_ask 54 = .ok (.aload_n 0, 1) := by decide +kernel
theorem dX12_ask_55 : decode cX12_ask 55 = .ok (.getfield 351, 3) := by decide +kernel
theorem dX12_ask_58 : decode cX12_ask 58 = .ok (.iload_n 3, 1) := by decide +kernel
theorem dX12_ask_59 : decode cX12_ask 59 = .ok (.iaload, 1) := by decide +kernel
theorem dX12_ask_60 : decode cX12_ask 60 = .ok (.putfield 859, 3) := by decide +kernel
theorem dX12_ask_63 : decode cX12_ask 63 = .ok (.iconst 0, 1) := by decide +kernel
theorem dX12_ask_64 : decode cX12_ask 64 = .ok (.istore 4, 2) := by decide +kernel
theorem dX12_ask_66 : decode cX12_ask 66 = .ok (.iload 4, 2) := by decide +kernel
theorem dX12_ask_68 : decode cX12_ask 68 = .ok (.aload_n 0, 1) := by decide +kernel
theorem dX12_ask_69 : decode cX12_ask 69 = .ok (.getfield 856, 3) := by decide +kernel
theorem dX12_ask_72 : decode cX12_ask 72 = .ok (.if_icmp .ge 110, 3) := by decide +kernel
theorem dX12_ask_75 : decode cX12_ask 75 = .ok (.aload_n 0, 1) := by decide +kernel
theorem dX12_ask_76 : decode cX12_ask 76 = .ok (.getfield 735, 3) := by decide +kernel
theorem dX12_ask_79 : decode cX12_ask 79 = .ok (.iload 4, 2) := by decide +kernel
theorem dX12_ask_81 : decode cX12_ask 81 = .ok (.aload_n 0, 1) := by decide +kernel
theorem dX12_ask_82 : decode cX12_ask 82 = .ok (.getfield 554, 3) := by decide +kernel
theorem dX12_ask_85 : decode cX12_ask 85 = .ok (.iload 4, 2) := by decide +kernel
theorem dX12_ask_87 : decode cX12_ask 87 = .ok (.laload, 1) := by decide +kernel
theorem dX12_ask_88 : decode cX12_ask 88 = .ok (.iload_n 2, 1) := by decide +kernel
theorem dX12_ask_89 : decode cX12_ask 89 = .ok (.i2l, 1) := by decide +kernel
theorem dX12_ask_90 : decode cX12_ask 90 = .ok (.aload_n 0, 1) := by decide +kernel
theorem dX12_ask_91 : decode cX12_ask 91 = .ok (.getfield 859, 3) := by decide +kernel
theorem dX12_ask_94 : decode cX12_ask 94 = .ok (.i2l, 1) := by decide +kernel
theorem dX12_ask_95 : decode cX12_ask 95 = .ok (.lmul, 1) := by decide +kernel
theorem dX12_ask_96 : decode cX12_ask 96 = .ok (.lsub, 1) := by decide +kernel
theorem dX12_ask_97 : decode cX12_ask 97 = .ok (.lastore, 1) := by decide +kernel
theorem dX12_ask_98 : decode cX12_ask 98 = .ok (.aload_n 0, 1) := by decide +kernel
theorem dX12_ask_99 : decode cX12_ask 99 = .ok (.getfield 738, 3) := by decide +kernel
theorem dX12_ask_102 : decode cX12_ask 102 = .ok (.iload 4, 2) := by decide +kernel
theorem dX12_ask_104 : decode cX12_ask 104 = .ok (.aload_n 0, 1) := by decide +kernel
theorem dX12_ask_105 : decode cX12_ask 105 = .ok (.getfield 557, 3) := by decide +kernel
theorem dX12_ask_108 : decode cX12_ask 108 = .ok (.iload 4, 2) := by decide +kernel
theorem dX12_ask_110 : decode cX12_ask 110 = .ok (.laload, 1) := by decide +kernel
theorem dX12_ask_111 : decode cX12_ask 111 = .ok (.aload_n 0, 1) := by decide +kernel
theorem dX12_ask_112 : decode cX12_ask 112 = .ok (.getfield 554, 3) := by decide +kernel
theorem dX12_ask_115 : decode cX12_ask 115 = .ok (.iload 4, 2) := by decide +kernel
theorem dX12_ask_117 : decode cX12_ask 117 = .ok (.laload, 1) := by decide +kernel
theorem dX12_ask_118 : decode cX12_ask 118 = .ok (.lsub, 1) := by decide +kernel
theorem dX12_ask_119 : decode cX12_ask 119 = .ok (.lastore, 1) := by decide +kernel
theorem dX12_ask_120 : decode cX12_ask 120 = .ok (.aload_n 0, 1) := by decide +kernel
theorem dX12_ask_121 : decode cX12_ask 121 = .ok (.getfield 741, 3) := by decide +kernel
theorem dX12_ask_124 : decode cX12_ask 124 = .ok (.iload 4, 2) := by decide +kernel
theorem dX12_ask_126 : decode cX12_ask 126 = .ok (.aload_n 0, 1) := by decide +kernel
theorem dX12_ask_127 : decode cX12_ask 127 = .ok (.getfield 560, 3) := by decide +kernel
theorem dX12_ask_130 : decode cX12_ask 130 = .ok (.iload 4, 2) := by decide +kernel
theorem dX12_ask_132 : decode cX12_ask 132 = .ok (.iaload, 1) := by decide +kernel
theorem dX12_ask_133 : decode cX12_ask 133 = .ok (.iastore, 1) := by decide +kernel
theorem dX12_ask_134 : decode cX12_ask 134 = .ok (.aload_n 0, 1) := by decide +kernel
theorem dX12_ask_135 : decode cX12_ask 135 = .ok (.getfield 744, 3) := by decide +kernel
theorem dX12_ask_138 : decode cX12_ask 138 = .ok (.iload 4, 2) := by decide +kernel
theorem dX12_ask_140 : decode cX12_ask 140 = .ok (.aload_n 0, 1) := by decide +kernel
theorem dX12_ask_141 : decode cX12_ask 141 = .ok (.getfield 563, 3) := by decide +kernel
theorem dX12_ask_144 : decode cX12_ask 144 = .ok (.iload 4, 2) := by decide +kernel
theorem dX12_ask_146 : decode cX12_ask 146 = .ok (.iaload, 1) := by decide +kernel
theorem dX12_ask_147 : decode cX12_ask 147 = .ok (.iastore, 1) := by decide +kernel
theorem dX12_ask_148 : decode cX12_ask 148 = .ok (.aload_n 0, 1) := by decide +kernel
theorem dX12_ask_149 : decode cX12_ask 149 = .ok (.getfield 747, 3) := by decide +kernel
theorem dX12_ask_152 : decode cX12_ask 152 = .ok (.iload 4, 2) := by decide +kernel
theorem dX12_ask_154 : decode cX12_ask 154 = .ok (.aload_n 0, 1) := by decide +kernel
theorem dX12_ask_155 : decode cX12_ask 155 = .ok (.getfield 566, 3) := by decide +kernel
theorem dX12_ask_158 : decode cX12_ask 158 = .ok (.iload 4, 2) := by decide +kernel
theorem dX12_ask_160 : decode cX12_ask 160 = .ok (.iaload, 1) := by decide +kernel
theorem dX12_ask_161 : decode cX12_ask 161 = .ok (.iastore, 1) := by decide +kernel
theorem dX12_ask_162 : decode cX12_ask 162 = .ok (.aload_n 0, 1) := by decide +kernel
theorem dX12_ask_163 : decode cX12_ask 163 = .ok (.getfield 750, 3) := by decide +kernel
theorem dX12_ask_166 : decode cX12_ask 166 = .ok (.iload 4, 2) := by decide +kernel
theorem dX12_ask_168 : decode cX12_ask 168 = .ok (.aload_n 0, 1) := by decide +kernel
theorem dX12_ask_169 : decode cX12_ask 169 = .ok (.getfield 569, 3) := by decide +kernel
theorem dX12_ask_172 : decode cX12_ask 172 = .ok (.iload 4, 2) := by decide +kernel
theorem dX12_ask_174 : decode cX12_ask 174 = .ok (.iaload, 1) := by decide +kernel
theorem dX12_ask_175 : decode cX12_ask 175 = .ok (.iastore, 1) := by decide +kernel
theorem dX12_ask_176 : decode cX12_ask 176 = .ok (.iinc 4 1, 3) := by decide +kernel
theorem dX12_ask_179 : decode cX12_ask 179 = .ok (.goto (-113), 3) := by decide +kernel
theorem dX12_ask_182 : decode cX12_ask 182 = .ok (.aload_n 0, 1) := by decide +kernel
theorem dX12_ask_183 : decode cX12_ask 183 = .ok (.getfield 856, 3) := by decide +kernel
theorem dX12_ask_186 : decode cX12_ask 186 = .ok (.ireturn, 1) := by decide +kernel
theorem dX12_lowest_0 : decode cX12_lowest 0 = .ok (.lload_n 0, 1) := by decide +kernel
theorem dX12_lowest_1 : decode cX12_lowest 1 = .ok (.lload_n 2, 1) := by decide +kernel
theorem dX12_lowest_2 : decode cX12_lowest 2 = .ok (.invokestatic 314, 3) := by decide +kernel
theorem dX12_lowest_5 : decode cX12_lowest 5 = .ok (.lstore 5, 2) := by decide +kernel
theorem dX12_lowest_7 : decode cX12_lowest 7 = .ok (.iload 4, 2) := by decide +kernel
theorem dX12_lowest_9 : decode cX12_lowest 9 = .ok (.ifCond .eq 7, 3) := by decide +kernel
theorem dX12_lowest_12 : decode cX12_lowest 12 = .ok (.lload_n 2, 1) := by decide +kernel
theorem dX12_lowest_13 : decode cX12_lowest 13 = .ok (.goto 4, 3) := by decide +kernel
theorem dX12_lowest_16 : decode cX12_lowest 16 = .ok (.lload_n 0, 1) := by decide +kernel
theorem dX12_lowest_17 : decode cX12_lowest 17 = .ok (.lload 5, 2) := by decide +kernel
theorem dX12_lowest_19 : decode cX12_lowest 19 = .ok (.ldiv, 1) := by decide +kernel
theorem dX12_lowest_20 : decode cX12_lowest 20 = .ok (.l2i, 1) := by decide +kernel
theorem dX12_lowest_21 : decode cX12_lowest 21 = .ok (.ireturn, 1) := by decide +kernel
theorem dX12_letters_0 : decode cX12_letters 0 = .ok (.iconst 0, 1) := by decide +kernel
theorem dX12_letters_1 : decode cX12_letters 1 = .ok (.istore_n 2, 1) := by decide +kernel
theorem dX12_letters_2 : decode cX12_letters 2 = .ok (.iload_n 0, 1) := by decide +kernel
theorem dX12_letters_3 : decode cX12_letters 3 = .ok (.istore_n 3, 1) := by decide +kernel
theorem dX12_letters_4 : decode cX12_letters 4 = .ok (.iload_n 3, 1) := by decide +kernel
theorem dX12_letters_5 : decode cX12_letters 5 = .ok (.ifCond .eq 13, 3) := by decide +kernel
theorem dX12_letters_8 : decode cX12_letters 8 = .ok (.iinc 2 1, 3) := by decide +kernel
theorem dX12_letters_11 : decode cX12_letters 11 = .ok (.iload_n 3, 1) := by decide +kernel
theorem dX12_letters_12 : decode cX12_letters 12 = .ok (.iconst 5, 1) := by decide +kernel
theorem dX12_letters_13 : decode cX12_letters 13 = .ok (.iushr, 1) := by decide +kernel
theorem dX12_letters_14 : decode cX12_letters 14 = .ok (.istore_n 3, 1) := by decide +kernel
theorem dX12_letters_15 : decode cX12_letters 15 = .ok (.goto (-11), 3) := by decide +kernel
theorem dX12_letters_18 : decode cX12_letters 18 = .ok (.iload_n 1, 1) := by decide +kernel
theorem dX12_letters_19 : decode cX12_letters 19 = .ok (.istore_n 3, 1) := by decide +kernel
theorem dX12_letters_20 : decode cX12_letters 20 = .ok (.iload_n 3, 1) := by decide +kernel
theorem dX12_letters_21 : decode cX12_letters 21 = .ok (.ifCond .eq 13, 3) := by decide +kernel
theorem dX12_letters_24 : decode cX12_letters 24 = .ok (.iinc 2 1, 3) := by decide +kernel
theorem dX12_letters_27 : decode cX12_letters 27 = .ok (.iload_n 3, 1) := by decide +kernel
theorem dX12_letters_28 : decode cX12_letters 28 = .ok (.iconst 5, 1) := by decide +kernel
theorem dX12_letters_29 : decode cX12_letters 29 = .ok (.iushr, 1) := by decide +kernel
theorem dX12_letters_30 : decode cX12_letters 30 = .ok (.istore_n 3, 1) := by decide +kernel
theorem dX12_letters_31 : decode cX12_letters 31 = .ok (.goto (-11), 3) := by decide +kernel
theorem dX12_letters_34 : decode cX12_letters 34 = .ok (.iload_n 2, 1) := by decide +kernel
theorem dX12_letters_35 : decode cX12_letters 35 = .ok (.ireturn, 1) := by decide +kernel
theorem dX12_letterAt_0 : decode cX12_letterAt 0 = .ok (.iload_n 0, 1) := by decide +kernel
theorem dX12_letterAt_1 : decode cX12_letterAt 1 = .ok (.iload_n 1, 1) := by decide +kernel
theorem dX12_letterAt_2 : decode cX12_letterAt 2 = .ok (.invokestatic 862, 3) := by decide +kernel
theorem dX12_letterAt_5 : decode cX12_letterAt 5 = .ok (.istore_n 3, 1) := by decide +kernel
theorem dX12_letterAt_6 : decode cX12_letterAt 6 = .ok (.iload_n 2, 1) := by decide +kernel
theorem dX12_letterAt_7 : decode cX12_letterAt 7 = .ok (.ifCond .lt 8, 3) := by decide +kernel
theorem dX12_letterAt_10 : decode cX12_letterAt 10 = .ok (.iload_n 2, 1) := by decide +kernel
theorem dX12_letterAt_11 : decode cX12_letterAt 11 = .ok (.iload_n 3, 1) := by decide +kernel
theorem dX12_letterAt_12 : decode cX12_letterAt 12 = .ok (.if_icmp .lt 5, 3) := by decide +kernel
theorem dX12_letterAt_15 : decode cX12_letterAt 15 = .ok (.iconst (-1), 1) := by decide +kernel
theorem dX12_letterAt_16 : decode cX12_letterAt 16 = .ok (.ireturn, 1) := by decide +kernel
theorem dX12_letterAt_17 : decode cX12_letterAt 17 = .ok (.iload_n 3, 1) := by decide +kernel
theorem dX12_letterAt_18 : decode cX12_letterAt 18 = .ok (.iconst 4, 1) := by decide +kernel
theorem dX12_letterAt_19 : decode cX12_letterAt 19 = .ok (.if_icmp .ge 7, 3) := by decide +kernel
theorem dX12_letterAt_22 : decode cX12_letterAt 22 = .ok (.iload_n 3, 1) := by decide +kernel
theorem dX12_letterAt_23 : decode cX12_letterAt 23 = .ok (.goto 4, 3) := by decide +kernel
theorem dX12_letterAt_26 : decode cX12_letterAt 26 = .ok (.iconst 4, 1) := by decide +kernel
theorem dX12_letterAt_27 : decode cX12_letterAt 27 = .ok (.istore 4, 2) := by decide +kernel
theorem dX12_letterAt_29 : decode cX12_letterAt 29 = .ok (.iload_n 2, 1) := by decide +kernel
theorem dX12_letterAt_30 : decode cX12_letterAt 30 = .ok (.iload 4, 2) := by decide +kernel
theorem dX12_letterAt_32 : decode cX12_letterAt 32 = .ok (.if_icmp .ge 16, 3) := by decide +kernel
theorem dX12_letterAt_35 : decode cX12_letterAt 35 = .ok (.iload_n 0, 1) := by decide +kernel
theorem dX12_letterAt_36 : decode cX12_letterAt 36 = .ok (.iconst 5, 1) := by decide +kernel
theorem dX12_letterAt_37 : decode cX12_letterAt 37 = .ok (.iload 4, 2) := by decide +kernel
theorem dX12_letterAt_39 : decode cX12_letterAt 39 = .ok (.iconst 1, 1) := by decide +kernel
theorem dX12_letterAt_40 : decode cX12_letterAt 40 = .ok (.isub, 1) := by decide +kernel
theorem dX12_letterAt_41 : decode cX12_letterAt 41 = .ok (.iload_n 2, 1) := by decide +kernel
theorem dX12_letterAt_42 : decode cX12_letterAt 42 = .ok (.isub, 1) := by decide +kernel
theorem dX12_letterAt_43 : decode cX12_letterAt 43 = .ok (.imul, 1) := by decide +kernel
theorem dX12_letterAt_44 : decode cX12_letterAt 44 = .ok (.ishr, 1) := by decide +kernel
theorem dX12_letterAt_45 : decode cX12_letterAt 45 = .ok (.goto 12, 3) := by decide +kernel
theorem dX12_letterAt_48 : decode cX12_letterAt 48 = .ok (.iload_n 1, 1) := by decide +kernel
theorem dX12_letterAt_49 : decode cX12_letterAt 49 = .ok (.iconst 5, 1) := by decide +kernel
theorem dX12_letterAt_50 : decode cX12_letterAt 50 = .ok (.iload_n 3, 1) := by decide +kernel
theorem dX12_letterAt_51 : decode cX12_letterAt 51 = .ok (.iconst 1, 1) := by decide +kernel
theorem dX12_letterAt_52 : decode cX12_letterAt 52 = .ok (.isub, 1) := by decide +kernel
theorem dX12_letterAt_53 : decode cX12_letterAt 53 = .ok (.iload_n 2, 1) := by decide +kernel
theorem dX12_letterAt_54 : decode cX12_letterAt 54 = .ok (.isub, 1) := by decide +kernel
theorem dX12_letterAt_55 : decode cX12_letterAt 55 = .ok (.imul, 1) := by decide +kernel
theorem dX12_letterAt_56 : decode cX12_letterAt 56 = .ok (.ishr, 1) := by decide +kernel
theorem dX12_letterAt_57 : decode cX12_letterAt 57 = .ok (.istore 5, 2) := by decide +kernel
theorem dX12_letterAt_59 : decode cX12_letterAt 59 = .ok (.bipush 96, 2) := by decide +kernel
theorem dX12_letterAt_61 : decode cX12_letterAt 61 = .ok (.iload 5, 2) := by decide +kernel
theorem dX12_letterAt_63 : decode cX12_letterAt 63 = .ok (.bipush 31, 2) := by decide +kernel
theorem dX12_letterAt_65 : decode cX12_letterAt 65 = .ok (.iand, 1) := by decide +kernel
theorem dX12_letterAt_66 : decode cX12_letterAt 66 = .ok (.iadd, 1) := by decide +kernel
theorem dX12_letterAt_67 : decode cX12_letterAt 67 = .ok (.ireturn, 1) := by decide +kernel
theorem dX12_event_0 : decode cX12_event 0 = .ok (.iload_n 1, 1) := by decide +kernel
theorem dX12_event_1 : decode cX12_event 1 = .ok (.ifCond .lt 11, 3) := by decide +kernel
theorem dX12_event_4 : decode cX12_event 4 = .ok (.iload_n 1, 1) := by decide +kernel
theorem dX12_event_5 : decode cX12_event 5 = .ok (.aload_n 0, 1) := by decide +kernel
theorem dX12_event_6 : decode cX12_event 6 = .ok (.getfield 856, 3) := by decide +kernel
theorem dX12_event_9 : decode cX12_event 9 = .ok (.if_icmp .lt 5, 3) := by decide +kernel
theorem dX12_event_12 : decode cX12_event 12 = .ok (.iconst (-1), 1) := by decide +kernel
theorem dX12_event_13 : decode cX12_event 13 = .ok (.ireturn, 1) := by decide +kernel
theorem dX12_event_14 : decode cX12_event 14 = .ok (.iload_n 2, 1) := by decide +kernel
theorem dX12_event_15 : decode cX12_event 15 = .ok (.tableswitch 139 0 6 #[41, 41, 66, 66, 91, 114, 123], 41) := by decide +kernel
theorem dX12_event_56 : decode cX12_event 56 = .ok (.aload_n 0, 1) := by decide +kernel
theorem dX12_event_57 : decode cX12_event 57 = .ok (.getfield 735, 3) := by decide +kernel
theorem dX12_event_60 : decode cX12_event 60 = .ok (.iload_n 1, 1) := by decide +kernel
theorem dX12_event_61 : decode cX12_event 61 = .ok (.laload, 1) := by decide +kernel
theorem dX12_event_62 : decode cX12_event 62 = .ok (.aload_n 0, 1) := by decide +kernel
theorem dX12_event_63 : decode cX12_event 63 = .ok (.getfield 859, 3) := by decide +kernel
theorem dX12_event_66 : decode cX12_event 66 = .ok (.i2l, 1) := by decide +kernel
theorem dX12_event_67 : decode cX12_event 67 = .ok (.iload_n 2, 1) := by decide +kernel
theorem dX12_event_68 : decode cX12_event 68 = .ok (.iconst 1, 1) := by decide +kernel
theorem dX12_event_69 : decode cX12_event 69 = .ok (.if_icmp .ne 7, 3) := by decide +kernel
theorem dX12_event_72 : decode cX12_event 72 = .ok (.iconst 1, 1) := by decide +kernel
theorem dX12_event_73 : decode cX12_event 73 = .ok (.goto 4, 3) := by decide +kernel
theorem dX12_event_76 : decode cX12_event 76 = .ok (.iconst 0, 1) := by decide +kernel
theorem dX12_event_77 : decode cX12_event 77 = .ok (.invokestatic 865, 3) := by decide +kernel
theorem dX12_event_80 : decode cX12_event 80 = .ok (.ireturn, 1) := by decide +kernel
theorem dX12_event_81 : decode cX12_event 81 = .ok (.aload_n 0, 1) := by decide +kernel
theorem dX12_event_82 : decode cX12_event 82 = .ok (.getfield 738, 3) := by decide +kernel
theorem dX12_event_85 : decode cX12_event 85 = .ok (.iload_n 1, 1) := by decide +kernel
theorem dX12_event_86 : decode cX12_event 86 = .ok (.laload, 1) := by decide +kernel
theorem dX12_event_87 : decode cX12_event 87 = .ok (.aload_n 0, 1) := by decide +kernel
theorem dX12_event_88 : decode cX12_event 88 = .ok (.getfield 859, 3) := by decide +kernel
theorem dX12_event_91 : decode cX12_event 91 = .ok (.i2l, 1) := by decide +kernel
theorem dX12_event_92 : decode cX12_event 92 = .ok (.iload_n 2, 1) := by decide +kernel
theorem dX12_event_93 : decode cX12_event 93 = .ok (.iconst 3, 1) := by decide +kernel
theorem dX12_event_94 : decode cX12_event 94 = .ok (.if_icmp .ne 7, 3) := by decide +kernel
theorem dX12_event_97 : decode cX12_event 97 = .ok (.iconst 1, 1) := by decide +kernel
theorem dX12_event_98 : decode cX12_event 98 = .ok (.goto 4, 3) := by decide +kernel
theorem dX12_event_101 : decode cX12_event 101 = .ok (.iconst 0, 1) := by decide +kernel
theorem dX12_event_102 : decode cX12_event 102 = .ok (.invokestatic 865, 3) := by decide +kernel
theorem dX12_event_105 : decode cX12_event 105 = .ok (.ireturn, 1) := by decide +kernel
theorem dX12_event_106 : decode cX12_event 106 = .ok (.aload_n 0, 1) := by decide +kernel
theorem dX12_event_107 : decode cX12_event 107 = .ok (.getfield 750, 3) := by decide +kernel
theorem dX12_event_110 : decode cX12_event 110 = .ok (.iload_n 1, 1) := by decide +kernel
theorem dX12_event_111 : decode cX12_event 111 = .ok (.iaload, 1) := by decide +kernel
theorem dX12_event_112 : decode cX12_event 112 = .ok (.iconst 2, 1) := by decide +kernel
theorem dX12_event_113 : decode cX12_event 113 = .ok (.iand, 1) := by decide +kernel
theorem dX12_event_114 : decode cX12_event 114 = .ok (.iconst 2, 1) := by decide +kernel
theorem dX12_event_115 : decode cX12_event 115 = .ok (.if_icmp .ne 12, 3) := by decide +kernel
theorem dX12_event_118 : decode cX12_event 118 = .ok (.aload_n 0, 1) := by decide +kernel
theorem dX12_event_119 : decode cX12_event 119 = .ok (.getfield 747, 3) := by decide +kernel
theorem dX12_event_122 : decode cX12_event 122 = .ok (.iload_n 1, 1) := by decide +kernel
theorem dX12_event_123 : decode cX12_event 123 = .ok (.iaload, 1) := by decide +kernel
theorem dX12_event_124 : decode cX12_event 124 = .ok (.goto 4, 3) := by decide +kernel
theorem dX12_event_127 : decode cX12_event 127 = .ok (.iconst 0, 1) := by decide +kernel
theorem dX12_event_128 : decode cX12_event 128 = .ok (.ireturn, 1) := by decide +kernel
theorem dX12_event_129 : decode cX12_event 129 = .ok (.aload_n 0, 1) := by decide +kernel
theorem dX12_event_130 : decode cX12_event 130 = .ok (.getfield 750, 3) := by decide +kernel
theorem dX12_event_133 : decode cX12_event 133 = .ok (.iload_n 1, 1) := by decide +kernel
theorem dX12_event_134 : decode cX12_event 134 = .ok (.iaload, 1) := by decide +kernel
theorem dX12_event_135 : decode cX12_event 135 = .ok (.iconst 1, 1) := by decide +kernel
theorem dX12_event_136 : decode cX12_event 136 = .ok (.ishr, 1) := by decide +kernel
theorem dX12_event_137 : decode cX12_event 137 = .ok (.ireturn, 1) := by decide +kernel
theorem dX12_event_138 : decode cX12_event 138 = .ok (.aload_n 0, 1) := by decide +kernel
theorem dX12_event_139 : decode cX12_event 139 = .ok (.getfield 741, 3) := by decide +kernel
theorem dX12_event_142 : decode cX12_event 142 = .ok (.iload_n 1, 1) := by decide +kernel
theorem dX12_event_143 : decode cX12_event 143 = .ok (.iaload, 1) := by decide +kernel
theorem dX12_event_144 : decode cX12_event 144 = .ok (.aload_n 0, 1) := by decide +kernel
theorem dX12_event_145 : decode cX12_event 145 = .ok (.getfield 744, 3) := by decide +kernel
theorem dX12_event_148 : decode cX12_event 148 = .ok (.iload_n 1, 1) := by decide +kernel
theorem dX12_event_149 : decode cX12_event 149 = .ok (.iaload, 1) := by decide +kernel
theorem dX12_event_150 : decode cX12_event 150 = .ok (.invokestatic 862, 3) := by decide +kernel
theorem dX12_event_153 : decode cX12_event 153 = .ok (.ireturn, 1) := by decide +kernel
theorem dX12_event_154 : decode cX12_event 154 = .ok (.iconst (-1), 1) := by decide +kernel
theorem dX12_event_155 : decode cX12_event 155 = .ok (.ireturn, 1) := by decide +kernel
theorem dX12_letter_0 : decode cX12_letter 0 = .ok (.iload_n 1, 1) := by decide +kernel
theorem dX12_letter_1 : decode cX12_letter 1 = .ok (.ifCond .lt 11, 3) := by decide +kernel
theorem dX12_letter_4 : decode cX12_letter 4 = .ok (.iload_n 1, 1) := by decide +kernel
theorem dX12_letter_5 : decode cX12_letter 5 = .ok (.aload_n 0, 1) := by decide +kernel
theorem dX12_letter_6 : decode cX12_letter 6 = .ok (.getfield 856, 3) := by decide +kernel
theorem dX12_letter_9 : decode cX12_letter 9 = .ok (.if_icmp .lt 7, 3) := by decide +kernel
theorem dX12_letter_12 : decode cX12_letter 12 = .ok (.iconst (-1), 1) := by decide +kernel
theorem dX12_letter_13 : decode cX12_letter 13 = .ok (.goto 19, 3) := by decide +kernel
theorem dX12_letter_16 : decode cX12_letter 16 = .ok (.aload_n 0, 1) := by decide +kernel
theorem dX12_letter_17 : decode cX12_letter 17 = .ok (.getfield 741, 3) := by decide +kernel
theorem dX12_letter_20 : decode cX12_letter 20 = .ok (.iload_n 1, 1) := by decide +kernel
theorem dX12_letter_21 : decode cX12_letter 21 = .ok (.iaload, 1) := by decide +kernel
theorem dX12_letter_22 : decode cX12_letter 22 = .ok (.aload_n 0, 1) := by decide +kernel
theorem dX12_letter_23 : decode cX12_letter 23 = .ok (.getfield 744, 3) := by decide +kernel
theorem dX12_letter_26 : decode cX12_letter 26 = .ok (.iload_n 1, 1) := by decide +kernel
theorem dX12_letter_27 : decode cX12_letter 27 = .ok (.iaload, 1) := by decide +kernel
theorem dX12_letter_28 : decode cX12_letter 28 = .ok (.iload_n 2, 1) := by decide +kernel
theorem dX12_letter_29 : decode cX12_letter 29 = .ok (.invokestatic 869, 3) := by decide +kernel
theorem dX12_letter_32 : decode cX12_letter 32 = .ok (.ireturn, 1) := by decide +kernel
theorem dX12_isSounding_0 : decode cX12_isSounding 0 = .ok (.iconst 0, 1) := by decide +kernel
theorem dX12_isSounding_1 : decode cX12_isSounding 1 = .ok (.istore_n 2, 1) := by decide +kernel
theorem dX12_isSounding_2 : decode cX12_isSounding 2 = .ok (.iconst 0, 1) := by decide +kernel
theorem dX12_isSounding_3 : decode cX12_isSounding 3 = .ok (.istore_n 3, 1) := by decide +kernel
theorem dX12_isSounding_4 : decode cX12_isSounding 4 = .ok (.iload_n 3, 1) := by decide +kernel
theorem dX12_isSounding_5 : decode cX12_isSounding 5 = .ok (.bipush 8, 2) := by decide +kernel
theorem dX12_isSounding_7 : decode cX12_isSounding 7 = .ok (.if_icmp .ge 28, 3) := by decide +kernel
theorem dX12_isSounding_10 : decode cX12_isSounding 10 = .ok (.iload_n 2, 1) := by decide +kernel
theorem dX12_isSounding_11 : decode cX12_isSounding 11 = .ok (.ifCond .ne 12, 3) := by decide +kernel
theorem dX12_isSounding_14 : decode cX12_isSounding 14 = .ok (.aload_n 0, 1) := by decide +kernel
theorem dX12_isSounding_15 : decode cX12_isSounding 15 = .ok (.getfield 723, 3) := by decide +kernel
theorem dX12_isSounding_18 : decode cX12_isSounding 18 = .ok (.iload_n 3, 1) := by decide +kernel
theorem dX12_isSounding_19 : decode cX12_isSounding 19 = .ok (.baload, 1) := by decide +kernel
theorem dX12_isSounding_20 : decode cX12_isSounding 20 = .ok (.ifCond .eq 7, 3) := by decide +kernel
theorem dX12_isSounding_23 : decode cX12_isSounding 23 = .ok (.iconst 1, 1) := by decide +kernel
theorem dX12_isSounding_24 : decode cX12_isSounding 24 = .ok (.goto 4, 3) := by decide +kernel
theorem dX12_isSounding_27 : decode cX12_isSounding 27 = .ok (.iconst 0, 1) := by decide +kernel
theorem dX12_isSounding_28 : decode cX12_isSounding 28 = .ok (.istore_n 2, 1) := by decide +kernel
theorem dX12_isSounding_29 : decode cX12_isSounding 29 = .ok (.iinc 3 1, 3) := by decide +kernel
theorem dX12_isSounding_32 : decode cX12_isSounding 32 = .ok (.goto (-28), 3) := by decide +kernel
theorem dX12_isSounding_35 : decode cX12_isSounding 35 = .ok (.aload_n 0, 1) := by decide +kernel
theorem dX12_isSounding_36 : decode cX12_isSounding 36 = .ok (.getfield 719, 3) := by decide +kernel
theorem dX12_isSounding_39 : decode cX12_isSounding 39 = .ok (.iload_n 1, 1) := by decide +kernel
theorem dX12_isSounding_40 : decode cX12_isSounding 40 = .ok (.baload, 1) := by decide +kernel
theorem dX12_isSounding_41 : decode cX12_isSounding 41 = .ok (.ifCond .ne 20, 3) := by decide +kernel
theorem dX12_isSounding_44 : decode cX12_isSounding 44 = .ok (.iload_n 2, 1) := by decide +kernel
theorem dX12_isSounding_45 : decode cX12_isSounding 45 = .ok (.ifCond .eq 12, 3) := by decide +kernel
theorem dX12_isSounding_48 : decode cX12_isSounding 48 = .ok (.aload_n 0, 1) := by decide +kernel
theorem dX12_isSounding_49 : decode cX12_isSounding 49 = .ok (.getfield 723, 3) := by decide +kernel
theorem dX12_isSounding_52 : decode cX12_isSounding 52 = .ok (.iload_n 1, 1) := by decide +kernel
theorem dX12_isSounding_53 : decode cX12_isSounding 53 = .ok (.baload, 1) := by decide +kernel
theorem dX12_isSounding_54 : decode cX12_isSounding 54 = .ok (.ifCond .eq 7, 3) := by decide +kernel
theorem dX12_isSounding_57 : decode cX12_isSounding 57 = .ok (.iconst 1, 1) := by decide +kernel
theorem dX12_isSounding_58 : decode cX12_isSounding 58 = .ok (.goto 4, 3) := by decide +kernel
theorem dX12_isSounding_61 : decode cX12_isSounding 61 = .ok (.iconst 0, 1) := by decide +kernel
theorem dX12_isSounding_62 : decode cX12_isSounding 62 = .ok (.ireturn, 1) := by decide +kernel
theorem dX12_swaps_0 : decode cX12_swaps 0 = .ok (.iconst 0, 1) := by decide +kernel
theorem dX12_swaps_1 : decode cX12_swaps 1 = .ok (.istore_n 1, 1) := by decide +kernel
theorem dX12_swaps_2 : decode cX12_swaps 2 = .ok (.iload_n 1, 1) := by decide +kernel
theorem dX12_swaps_3 : decode cX12_swaps 3 = .ok (.bipush 8, 2) := by decide +kernel
theorem dX12_swaps_5 : decode cX12_swaps 5 = .ok (.if_icmp .ge 43, 3) := by decide +kernel
theorem dX12_swaps_8 : decode cX12_swaps 8 = .ok (.aload_n 0, 1) := by decide +kernel
theorem dX12_swaps_9 : decode cX12_swaps 9 = .ok (.getfield 716, 3) := by decide +kernel
theorem dX12_swaps_12 : decode cX12_swaps 12 = .ok (.iload_n 1, 1) := by decide +kernel
theorem dX12_swaps_13 : decode cX12_swaps 13 = .ok (.iaload, 1) := by decide +kernel
theorem dX12_swaps_14 : decode cX12_swaps 14 = .ok (.bipush (-2), 2) := by decide +kernel
theorem dX12_swaps_16 : decode cX12_swaps 16 = .ok (.if_icmp .ne 6, 3) := by decide +kernel
theorem dX12_swaps_19 : decode cX12_swaps 19 = .ok (.goto 23, 3) := by decide +kernel
theorem dX12_swaps_22 : decode cX12_swaps 22 = .ok (.aload_n 0, 1) := by decide +kernel
theorem dX12_swaps_23 : decode cX12_swaps 23 = .ok (.getfield 713, 3) := by decide +kernel
theorem dX12_swaps_26 : decode cX12_swaps 26 = .ok (.iload_n 1, 1) := by decide +kernel
theorem dX12_swaps_27 : decode cX12_swaps 27 = .ok (.aload_n 0, 1) := by decide +kernel
theorem dX12_swaps_28 : decode cX12_swaps 28 = .ok (.getfield 716, 3) := by decide +kernel
theorem dX12_swaps_31 : decode cX12_swaps 31 = .ok (.iload_n 1, 1) := by decide +kernel
theorem dX12_swaps_32 : decode cX12_swaps 32 = .ok (.iaload, 1) := by decide +kernel
theorem dX12_swaps_33 : decode cX12_swaps 33 = .ok (.iastore, 1) := by decide +kernel
theorem dX12_swaps_34 : decode cX12_swaps 34 = .ok (.aload_n 0, 1) := by decide +kernel
theorem dX12_swaps_35 : decode cX12_swaps 35 = .ok (.getfield 716, 3) := by decide +kernel
theorem dX12_swaps_38 : decode cX12_swaps 38 = .ok (.iload_n 1, 1) := by decide +kernel
theorem dX12_swaps_39 : decode cX12_swaps 39 = .ok (.bipush (-2), 2) := by decide +kernel
theorem dX12_swaps_41 : decode cX12_swaps 41 = .ok (.iastore, 1) := by decide +kernel
theorem dX12_swaps_42 : decode cX12_swaps 42 = .ok (.iinc 1 1, 3) := by decide +kernel
theorem dX12_swaps_45 : decode cX12_swaps 45 = .ok (.goto (-43), 3) := by decide +kernel
theorem dX12_swaps_48 : decode cX12_swaps 48 = .ok (.return_, 1) := by decide +kernel
theorem dX12_beat_0 : decode cX12_beat 0 = .ok (.aload_n 0, 1) := by decide +kernel
theorem dX12_beat_1 : decode cX12_beat 1 = .ok (.iconst 0, 1) := by decide +kernel
theorem dX12_beat_2 : decode cX12_beat 2 = .ok (.putfield 873, 3) := by decide +kernel
theorem dX12_beat_5 : decode cX12_beat 5 = .ok (.iconst 0, 1) := by decide +kernel
theorem dX12_beat_6 : decode cX12_beat 6 = .ok (.istore_n 3, 1) := by decide +kernel
theorem dX12_beat_7 : decode cX12_beat 7 = .ok (.iload_n 3, 1) := by decide +kernel
theorem dX12_beat_8 : decode cX12_beat 8 = .ok (.bipush 8, 2) := by decide +kernel
theorem dX12_beat_10 : decode cX12_beat 10 = .ok (.if_icmp .ge 271, 3) := by decide +kernel
theorem dX12_beat_13 : decode cX12_beat 13 = .ok (.aload_n 0, 1) := by decide +kernel
theorem dX12_beat_14 : decode cX12_beat 14 = .ok (.getfield 713, 3) := by decide +kernel
theorem dX12_beat_17 : decode cX12_beat 17 = .ok (.iload_n 3, 1) := by decide +kernel
theorem dX12_beat_18 : decode cX12_beat 18 = .ok (.iaload, 1) := by decide +kernel
theorem dX12_beat_19 : decode cX12_beat 19 = .ok (.iconst (-1), 1) := by decide +kernel
theorem dX12_beat_20 : decode cX12_beat 20 = .ok (.if_icmp .eq 255, 3) := by decide +kernel
theorem dX12_beat_23 : decode cX12_beat 23 = .ok (.aload_n 0, 1) := by decide +kernel
theorem dX12_beat_24 : decode cX12_beat 24 = .ok (.iload_n 3, 1) := by decide +kernel
theorem dX12_beat_25 : decode cX12_beat 25 = .ok (.invokevirtual 876, 3) := by decide +kernel
theorem dX12_beat_28 : decode cX12_beat 28 = .ok (.ifCond .ne 6, 3) := by decide +kernel
theorem dX12_beat_31 : decode cX12_beat 31 = .ok (.goto 244, 3) := by decide +kernel
theorem dX12_beat_34 : decode cX12_beat 34 = .ok (.aload_n 0, 1) := by decide +kernel
theorem dX12_beat_35 : decode cX12_beat 35 = .ok (.getfield 713, 3) := by decide +kernel
theorem dX12_beat_38 : decode cX12_beat 38 = .ok (.iload_n 3, 1) := by decide +kernel
theorem dX12_beat_39 : decode cX12_beat 39 = .ok (.iaload, 1) := by decide +kernel
theorem dX12_beat_40 : decode cX12_beat 40 = .ok (.istore 4, 2) := by decide +kernel
theorem dX12_beat_42 : decode cX12_beat 42 = .ok (.aload_n 0, 1) := by decide +kernel
theorem dX12_beat_43 : decode cX12_beat 43 = .ok (.iload 4, 2) := by decide +kernel
theorem dX12_beat_45 : decode cX12_beat 45 = .ok (.aload_n 0, 1) := by decide +kernel
theorem dX12_beat_46 : decode cX12_beat 46 = .ok (.getfield 879, 3) := by decide +kernel
theorem dX12_beat_49 : decode cX12_beat 49 = .ok (.i2l, 1) := by decide +kernel
theorem dX12_beat_50 : decode cX12_beat 50 = .ok (.invokevirtual 853, 3) := by decide +kernel
theorem dX12_beat_53 : decode cX12_beat 53 = .ok (.iconst 0, 1) := by decide +kernel
theorem dX12_beat_54 : decode cX12_beat 54 = .ok (.istore 5, 2) := by decide +kernel
theorem dX12_beat_56 : decode cX12_beat 56 = .ok (.iload 5, 2) := by decide +kernel
theorem dX12_beat_58 : decode cX12_beat 58 = .ok (.aload_n 0, 1) := by decide +kernel
theorem dX12_beat_59 : decode cX12_beat 59 = .ok (.getfield 526, 3) := by decide +kernel
theorem dX12_beat_62 : decode cX12_beat 62 = .ok (.if_icmp .ge 213, 3) := by decide +kernel
theorem dX12_beat_65 : decode cX12_beat 65 = .ok (.aload_n 0, 1) := by decide +kernel
theorem dX12_beat_66 : decode cX12_beat 66 = .ok (.getfield 554, 3) := by decide +kernel
theorem dX12_beat_69 : decode cX12_beat 69 = .ok (.iload 5, 2) := by decide +kernel
theorem dX12_beat_71 : decode cX12_beat 71 = .ok (.laload, 1) := by decide +kernel
theorem dX12_beat_72 : decode cX12_beat 72 = .ok (.aload_n 0, 1) := by decide +kernel
theorem dX12_beat_73 : decode cX12_beat 73 = .ok (.getfield 879, 3) := by decide +kernel
theorem dX12_beat_76 : decode cX12_beat 76 = .ok (.i2l, 1) := by decide +kernel
theorem dX12_beat_77 : decode cX12_beat 77 = .ok (.aload_n 0, 1) := by decide +kernel
theorem dX12_beat_78 : decode cX12_beat 78 = .ok (.getfield 351, 3) := by decide +kernel
theorem dX12_beat_81 : decode cX12_beat 81 = .ok (.iload 4, 2) := by decide +kernel
theorem dX12_beat_83 : decode cX12_beat 83 = .ok (.iaload, 1) := by decide +kernel
theorem dX12_beat_84 : decode cX12_beat 84 = .ok (.i2l, 1) := by decide +kernel
theorem dX12_beat_85 : decode cX12_beat 85 = .ok (.lmul, 1) := by decide +kernel
theorem dX12_beat_86 : decode cX12_beat 86 = .ok (.lsub, 1) := by decide +kernel
theorem dX12_beat_87 : decode cX12_beat 87 = .ok (.lstore 6, 2) := by decide +kernel
theorem dX12_beat_89 : decode cX12_beat 89 = .ok (.lload 6, 2) := by decide +kernel
theorem dX12_beat_91 : decode cX12_beat 91 = .ok (.ldc2_w 882, 3) := by decide +kernel
theorem dX12_beat_94 : decode cX12_beat 94 = .ok (.lmul, 1) := by decide +kernel
theorem dX12_beat_95 : decode cX12_beat 95 = .ok (.iload_n 1, 1) := by decide +kernel
theorem dX12_beat_96 : decode cX12_beat 96 = .ok (.i2l, 1) := by decide +kernel
theorem dX12_beat_97 : decode cX12_beat 97 = .ok (.aload_n 0, 1) := by decide +kernel
theorem dX12_beat_98 : decode cX12_beat 98 = .ok (.getfield 351, 3) := by decide +kernel
theorem dX12_beat_101 : decode cX12_beat 101 = .ok (.iload 4, 2) := by decide +kernel
theorem dX12_beat_103 : decode cX12_beat 103 = .ok (.iaload, 1) := by decide +kernel
theorem dX12_beat_104 : decode cX12_beat 104 = .ok (.i2l, 1) := by decide +kernel
theorem dX12_beat_105 : decode cX12_beat 105 = .ok (.lmul, 1) := by decide +kernel
theorem dX12_beat_106 : decode cX12_beat 106 = .ok (.lcmp, 1) := by decide +kernel
theorem dX12_beat_107 : decode cX12_beat 107 = .ok (.ifCond .lt 162, 3) := by decide +kernel
theorem dX12_beat_110 : decode cX12_beat 110 = .ok (.lload 6, 2) := by decide +kernel
theorem dX12_beat_112 : decode cX12_beat 112 = .ok (.ldc2_w 882, 3) := by decide +kernel
theorem dX12_beat_115 : decode cX12_beat 115 = .ok (.lmul, 1) := by decide +kernel
theorem dX12_beat_116 : decode cX12_beat 116 = .ok (.iload_n 2, 1) := by decide +kernel
theorem dX12_beat_117 : decode cX12_beat 117 = .ok (.i2l, 1) := by decide +kernel
theorem dX12_beat_118 : decode cX12_beat 118 = .ok (.aload_n 0, 1) := by decide +kernel
theorem dX12_beat_119 : decode cX12_beat 119 = .ok (.getfield 351, 3) := by decide +kernel
theorem dX12_beat_122 : decode cX12_beat 122 = .ok (.iload 4, 2) := by decide +kernel
theorem dX12_beat_124 : decode cX12_beat 124 = .ok (.iaload, 1) := by decide +kernel
theorem dX12_beat_125 : decode cX12_beat 125 = .ok (.i2l, 1) := by decide +kernel
theorem dX12_beat_126 : decode cX12_beat 126 = .ok (.lmul, 1) := by decide +kernel
theorem dX12_beat_127 : decode cX12_beat 127 = .ok (.lcmp, 1) := by decide +kernel
theorem dX12_beat_128 : decode cX12_beat 128 = .ok (.ifCond .lt 6, 3) := by decide +kernel
theorem dX12_beat_131 : decode cX12_beat 131 = .ok (.goto 138, 3) := by decide +kernel
theorem dX12_beat_134 : decode cX12_beat 134 = .ok (.aload_n 0, 1) := by decide +kernel
theorem dX12_beat_135 : decode cX12_beat 135 = .ok (.getfield 780, 3) := by decide +kernel
theorem dX12_beat_138 : decode cX12_beat 138 = .ok (.aload_n 0, 1) := by decide +kernel
theorem dX12_beat_139 : decode cX12_beat 139 = .ok (.getfield 873, 3) := by decide +kernel
theorem dX12_beat_142 : decode cX12_beat 142 = .ok (.iload_n 3, 1) := by decide +kernel
theorem dX12_beat_143 : decode cX12_beat 143 = .ok (.iastore, 1) := by decide +kernel
theorem dX12_beat_144 : decode cX12_beat 144 = .ok (.aload_n 0, 1) := by decide +kernel
theorem dX12_beat_145 : decode cX12_beat 145 = .ok (.getfield 783, 3) := by decide +kernel
theorem dX12_beat_148 : decode cX12_beat 148 = .ok (.aload_n 0, 1) := by decide +kernel
theorem dX12_beat_149 : decode cX12_beat 149 = .ok (.getfield 873, 3) := by decide +kernel
theorem dX12_beat_152 : decode cX12_beat 152 = .ok (.aload_n 0, 1) := by decide +kernel
theorem dX12_beat_153 : decode cX12_beat 153 = .ok (.getfield 351, 3) := by decide +kernel
theorem dX12_beat_156 : decode cX12_beat 156 = .ok (.iload 4, 2) := by decide +kernel
theorem dX12_beat_158 : decode cX12_beat 158 = .ok (.iaload, 1) := by decide +kernel
theorem dX12_beat_159 : decode cX12_beat 159 = .ok (.iastore, 1) := by decide +kernel
theorem dX12_beat_160 : decode cX12_beat 160 = .ok (.aload_n 0, 1) := by decide +kernel
theorem dX12_beat_161 : decode cX12_beat 161 = .ok (.getfield 786, 3) := by decide +kernel
theorem dX12_beat_164 : decode cX12_beat 164 = .ok (.aload_n 0, 1) := by decide +kernel
theorem dX12_beat_165 : decode cX12_beat 165 = .ok (.getfield 873, 3) := by decide +kernel
theorem dX12_beat_168 : decode cX12_beat 168 = .ok (.lload 6, 2) := by decide +kernel
theorem dX12_beat_170 : decode cX12_beat 170 = .ok (.lastore, 1) := by decide +kernel
theorem dX12_beat_171 : decode cX12_beat 171 = .ok (.aload_n 0, 1) := by decide +kernel
theorem dX12_beat_172 : decode cX12_beat 172 = .ok (.getfield 789, 3) := by decide +kernel
theorem dX12_beat_175 : decode cX12_beat 175 = .ok (.aload_n 0, 1) := by decide +kernel
theorem dX12_beat_176 : decode cX12_beat 176 = .ok (.getfield 873, 3) := by decide +kernel
theorem dX12_beat_179 : decode cX12_beat 179 = .ok (.aload_n 0, 1) := by decide +kernel
theorem dX12_beat_180 : decode cX12_beat 180 = .ok (.getfield 557, 3) := by decide +kernel
