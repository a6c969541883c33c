theorem dX12_counts_39 : decode cX12_counts 39 = .ok (.getfield 306, 3) := by decide +kernel
theorem dX12_counts_42 : decode cX12_counts 42 = .ok (.iconst 1, 1) := by decide +kernel
theorem dX12_counts_43 : decode cX12_counts 43 = .ok (.iadd, 1) := by decide +kernel
theorem dX12_counts_44 : decode cX12_counts 44 = .ok (.putfield 306, 3) := by decide +kernel
theorem dX12_counts_47 : decode cX12_counts 47 = .ok (.iinc 3 1, 3) := by decide +kernel
theorem dX12_counts_50 : decode cX12_counts 50 = .ok (.goto (-48), 3) := by decide +kernel
theorem dX12_counts_53 : decode cX12_counts 53 = .ok (.return_, 1) := by decide +kernel
theorem dX12_commonOf_0 : decode cX12_commonOf 0 = .ok (.lload_n 0, 1) := by decide +kernel
theorem dX12_commonOf_1 : decode cX12_commonOf 1 = .ok (.lstore 4, 2) := by decide +kernel
theorem dX12_commonOf_3 : decode cX12_commonOf 3 = .ok (.lload_n 2, 1) := by decide +kernel
theorem dX12_commonOf_4 : decode cX12_commonOf 4 = .ok (.lstore 6, 2) := by decide +kernel
theorem dX12_commonOf_6 : decode cX12_commonOf 6 = .ok (.lload 6, 2) := by decide +kernel
theorem dX12_commonOf_8 : decode cX12_commonOf 8 = .ok (.lconst 0, 1) := by decide +kernel
theorem dX12_commonOf_9 : decode cX12_commonOf 9 = .ok (.lcmp, 1) := by decide +kernel
theorem dX12_commonOf_10 : decode cX12_commonOf 10 = .ok (.ifCond .eq 21, 3) := by decide +kernel
theorem dX12_commonOf_13 : decode cX12_commonOf 13 = .ok (.lload 4, 2) := by decide +kernel
theorem dX12_commonOf_15 : decode cX12_commonOf 15 = .ok (.lload 6, 2) := by decide +kernel
theorem dX12_commonOf_17 : decode cX12_commonOf 17 = .ok (.lrem, 1) := by decide +kernel
theorem dX12_commonOf_18 : decode cX12_commonOf 18 = .ok (.lstore 8, 2) := by decide +kernel
theorem dX12_commonOf_20 : decode cX12_commonOf 20 = .ok (.lload 6, 2) := by decide +kernel
theorem dX12_commonOf_22 : decode cX12_commonOf 22 = .ok (.lstore 4, 2) := by decide +kernel
theorem dX12_commonOf_24 : decode cX12_commonOf 24 = .ok (.lload 8, 2) := by decide +kernel
theorem dX12_commonOf_26 : decode cX12_commonOf 26 = .ok (.lstore 6, 2) := by decide +kernel
theorem dX12_commonOf_28 : decode cX12_commonOf 28 = .ok (.goto (-22), 3) := by decide +kernel
theorem dX12_commonOf_31 : decode cX12_commonOf 31 = .ok (.lload 4, 2) := by decide +kernel
theorem dX12_commonOf_33 : decode cX12_commonOf 33 = .ok (.lreturn, 1) := by decide +kernel
theorem dX12_least_0 : decode cX12_least 0 = .ok (.lload_n 0, 1) := by decide +kernel
theorem dX12_least_1 : decode cX12_least 1 = .ok (.ldc2_w 312, 3) := by decide +kernel
theorem dX12_least_4 : decode cX12_least 4 = .ok (.lcmp, 1) := by decide +kernel
theorem dX12_least_5 : decode cX12_least 5 = .ok (.ifCond .ge 11, 3) := by decide +kernel
theorem dX12_least_8 : decode cX12_least 8 = .ok (.lload_n 2, 1) := by decide +kernel
theorem dX12_least_9 : decode cX12_least 9 = .ok (.ldc2_w 312, 3) := by decide +kernel
theorem dX12_least_12 : decode cX12_least 12 = .ok (.lcmp, 1) := by decide +kernel
theorem dX12_least_13 : decode cX12_least 13 = .ok (.ifCond .lt 9, 3) := by decide +kernel
theorem dX12_least_16 : decode cX12_least 16 = .ok (.ldc2_w 312, 3) := by decide +kernel
theorem dX12_least_19 : decode cX12_least 19 = .ok (.goto 34, 3) := by decide +kernel
theorem dX12_least_22 : decode cX12_least 22 = .ok (.lload_n 0, 1) := by decide +kernel
theorem dX12_least_23 : decode cX12_least 23 = .ok (.lload_n 0, 1) := by decide +kernel
theorem dX12_least_24 : decode cX12_least 24 = .ok (.lload_n 2, 1) := by decide +kernel
theorem dX12_least_25 : decode cX12_least 25 = .ok (.invokestatic 314, 3) := by decide +kernel
theorem dX12_least_28 : decode cX12_least 28 = .ok (.ldiv, 1) := by decide +kernel
theorem dX12_least_29 : decode cX12_least 29 = .ok (.ldc2_w 312, 3) := by decide +kernel
theorem dX12_least_32 : decode cX12_least 32 = .ok (.lload_n 2, 1) := by decide +kernel
theorem dX12_least_33 : decode cX12_least 33 = .ok (.ldiv, 1) := by decide +kernel
theorem dX12_least_34 : decode cX12_least 34 = .ok (.lcmp, 1) := by decide +kernel
theorem dX12_least_35 : decode cX12_least 35 = .ok (.ifCond .lt 9, 3) := by decide +kernel
theorem dX12_least_38 : decode cX12_least 38 = .ok (.ldc2_w 312, 3) := by decide +kernel
theorem dX12_least_41 : decode cX12_least 41 = .ok (.goto 12, 3) := by decide +kernel
theorem dX12_least_44 : decode cX12_least 44 = .ok (.lload_n 0, 1) := by decide +kernel
theorem dX12_least_45 : decode cX12_least 45 = .ok (.lload_n 0, 1) := by decide +kernel
theorem dX12_least_46 : decode cX12_least 46 = .ok (.lload_n 2, 1) := by decide +kernel
theorem dX12_least_47 : decode cX12_least 47 = .ok (.invokestatic 314, 3) := by decide +kernel
theorem dX12_least_50 : decode cX12_least 50 = .ok (.ldiv, 1) := by decide +kernel
theorem dX12_least_51 : decode cX12_least 51 = .ok (.lload_n 2, 1) := by decide +kernel
theorem dX12_least_52 : decode cX12_least 52 = .ok (.lmul, 1) := by decide +kernel
theorem dX12_least_53 : decode cX12_least 53 = .ok (.lreturn, 1) := by decide +kernel
theorem dX12_times_0 : decode cX12_times 0 = .ok (.lload_n 2, 1) := by decide +kernel
theorem dX12_times_1 : decode cX12_times 1 = .ok (.lconst 0, 1) := by decide +kernel
theorem dX12_times_2 : decode cX12_times 2 = .ok (.lcmp, 1) := by decide +kernel
theorem dX12_times_3 : decode cX12_times 3 = .ok (.ifCond .eq 19, 3) := by decide +kernel
theorem dX12_times_6 : decode cX12_times 6 = .ok (.lload_n 0, 1) := by decide +kernel
theorem dX12_times_7 : decode cX12_times 7 = .ok (.ldc2_w 312, 3) := by decide +kernel
theorem dX12_times_10 : decode cX12_times 10 = .ok (.lload_n 2, 1) := by decide +kernel
theorem dX12_times_11 : decode cX12_times 11 = .ok (.ldiv, 1) := by decide +kernel
theorem dX12_times_12 : decode cX12_times 12 = .ok (.lcmp, 1) := by decide +kernel
theorem dX12_times_13 : decode cX12_times 13 = .ok (.ifCond .lt 9, 3) := by decide +kernel
theorem dX12_times_16 : decode cX12_times 16 = .ok (.ldc2_w 312, 3) := by decide +kernel
theorem dX12_times_19 : decode cX12_times 19 = .ok (.goto 6, 3) := by decide +kernel
theorem dX12_times_22 : decode cX12_times 22 = .ok (.lload_n 0, 1) := by decide +kernel
theorem dX12_times_23 : decode cX12_times 23 = .ok (.lload_n 2, 1) := by decide +kernel
theorem dX12_times_24 : decode cX12_times 24 = .ok (.lmul, 1) := by decide +kernel
theorem dX12_times_25 : decode cX12_times 25 = .ok (.lreturn, 1) := by decide +kernel
theorem dX12_up_0 : decode cX12_up 0 = .ok (.lload_n 0, 1) := by decide +kernel
theorem dX12_up_1 : decode cX12_up 1 = .ok (.lload_n 2, 1) := by decide +kernel
theorem dX12_up_2 : decode cX12_up 2 = .ok (.ladd, 1) := by decide +kernel
theorem dX12_up_3 : decode cX12_up 3 = .ok (.lconst 1, 1) := by decide +kernel
theorem dX12_up_4 : decode cX12_up 4 = .ok (.lsub, 1) := by decide +kernel
theorem dX12_up_5 : decode cX12_up 5 = .ok (.lload_n 2, 1) := by decide +kernel
theorem dX12_up_6 : decode cX12_up 6 = .ok (.ldiv, 1) := by decide +kernel
theorem dX12_up_7 : decode cX12_up 7 = .ok (.lreturn, 1) := by decide +kernel
theorem dX12_gather_0 : decode cX12_gather 0 = .ok (.aload_n 0, 1) := by decide +kernel
theorem dX12_gather_1 : decode cX12_gather 1 = .ok (.lconst 1, 1) := by decide +kernel
theorem dX12_gather_2 : decode cX12_gather 2 = .ok (.putfield 318, 3) := by decide +kernel
theorem dX12_gather_5 : decode cX12_gather 5 = .ok (.aload_n 0, 1) := by decide +kernel
theorem dX12_gather_6 : decode cX12_gather 6 = .ok (.lconst 0, 1) := by decide +kernel
theorem dX12_gather_7 : decode cX12_gather 7 = .ok (.putfield 321, 3) := by decide +kernel
theorem dX12_gather_10 : decode cX12_gather 10 = .ok (.aload_n 0, 1) := by decide +kernel
theorem dX12_gather_11 : decode cX12_gather 11 = .ok (.lconst 0, 1) := by decide +kernel
theorem dX12_gather_12 : decode cX12_gather 12 = .ok (.putfield 324, 3) := by decide +kernel
theorem dX12_gather_15 : decode cX12_gather 15 = .ok (.aload_n 0, 1) := by decide +kernel
theorem dX12_gather_16 : decode cX12_gather 16 = .ok (.lconst 0, 1) := by decide +kernel
theorem dX12_gather_17 : decode cX12_gather 17 = .ok (.putfield 327, 3) := by decide +kernel
theorem dX12_gather_20 : decode cX12_gather 20 = .ok (.aload_n 0, 1) := by decide +kernel
theorem dX12_gather_21 : decode cX12_gather 21 = .ok (.lconst 0, 1) := by decide +kernel
theorem dX12_gather_22 : decode cX12_gather 22 = .ok (.putfield 330, 3) := by decide +kernel
theorem dX12_gather_25 : decode cX12_gather 25 = .ok (.aload_n 0, 1) := by decide +kernel
theorem dX12_gather_26 : decode cX12_gather 26 = .ok (.lconst 0, 1) := by decide +kernel
theorem dX12_gather_27 : decode cX12_gather 27 = .ok (.putfield 333, 3) := by decide +kernel
theorem dX12_gather_30 : decode cX12_gather 30 = .ok (.aload_n 0, 1) := by decide +kernel
theorem dX12_gather_31 : decode cX12_gather 31 = .ok (.iconst 0, 1) := by decide +kernel
theorem dX12_gather_32 : decode cX12_gather 32 = .ok (.putfield 336, 3) := by decide +kernel
theorem dX12_gather_35 : decode cX12_gather 35 = .ok (.aload_n 0, 1) := by decide +kernel
theorem dX12_gather_36 : decode cX12_gather 36 = .ok (.getfield 339, 3) := by decide +kernel
theorem dX12_gather_39 : decode cX12_gather 39 = .ok (.iload_n 1, 1) := by decide +kernel
theorem dX12_gather_40 : decode cX12_gather 40 = .ok (.iaload, 1) := by decide +kernel
theorem dX12_gather_41 : decode cX12_gather 41 = .ok (.istore_n 2, 1) := by decide +kernel
theorem dX12_gather_42 : decode cX12_gather 42 = .ok (.iload_n 2, 1) := by decide +kernel
theorem dX12_gather_43 : decode cX12_gather 43 = .ok (.aload_n 0, 1) := by decide +kernel
theorem dX12_gather_44 : decode cX12_gather 44 = .ok (.getfield 339, 3) := by decide +kernel
theorem dX12_gather_47 : decode cX12_gather 47 = .ok (.iload_n 1, 1) := by decide +kernel
theorem dX12_gather_48 : decode cX12_gather 48 = .ok (.iaload, 1) := by decide +kernel
theorem dX12_gather_49 : decode cX12_gather 49 = .ok (.aload_n 0, 1) := by decide +kernel
theorem dX12_gather_50 : decode cX12_gather 50 = .ok (.getfield 342, 3) := by decide +kernel
theorem dX12_gather_53 : decode cX12_gather 53 = .ok (.iload_n 1, 1) := by decide +kernel
theorem dX12_gather_54 : decode cX12_gather 54 = .ok (.iaload, 1) := by decide +kernel
theorem dX12_gather_55 : decode cX12_gather 55 = .ok (.iadd, 1) := by decide +kernel
theorem dX12_gather_56 : decode cX12_gather 56 = .ok (.if_icmp .ge 214, 3) := by decide +kernel
theorem dX12_gather_59 : decode cX12_gather 59 = .ok (.aload_n 0, 1) := by decide +kernel
theorem dX12_gather_60 : decode cX12_gather 60 = .ok (.getfield 345, 3) := by decide +kernel
theorem dX12_gather_63 : decode cX12_gather 63 = .ok (.iload_n 2, 1) := by decide +kernel
theorem dX12_gather_64 : decode cX12_gather 64 = .ok (.iaload, 1) := by decide +kernel
theorem dX12_gather_65 : decode cX12_gather 65 = .ok (.istore_n 3, 1) := by decide +kernel
theorem dX12_gather_66 : decode cX12_gather 66 = .ok (.aload_n 0, 1) := by decide +kernel
theorem dX12_gather_67 : decode cX12_gather 67 = .ok (.getfield 348, 3) := by decide +kernel
theorem dX12_gather_70 : decode cX12_gather 70 = .ok (.iload_n 2, 1) := by decide +kernel
theorem dX12_gather_71 : decode cX12_gather 71 = .ok (.iaload, 1) := by decide +kernel
theorem dX12_gather_72 : decode cX12_gather 72 = .ok (.bipush 32, 2) := by decide +kernel
theorem dX12_gather_74 : decode cX12_gather 74 = .ok (.idiv, 1) := by decide +kernel
theorem dX12_gather_75 : decode cX12_gather 75 = .ok (.istore 4, 2) := by decide +kernel
theorem dX12_gather_77 : decode cX12_gather 77 = .ok (.aload_n 0, 1) := by decide +kernel
theorem dX12_gather_78 : decode cX12_gather 78 = .ok (.aload_n 0, 1) := by decide +kernel
theorem dX12_gather_79 : decode cX12_gather 79 = .ok (.getfield 318, 3) := by decide +kernel
theorem dX12_gather_82 : decode cX12_gather 82 = .ok (.aload_n 0, 1) := by decide +kernel
theorem dX12_gather_83 : decode cX12_gather 83 = .ok (.getfield 351, 3) := by decide +kernel
theorem dX12_gather_86 : decode cX12_gather 86 = .ok (.iload_n 3, 1) := by decide +kernel
theorem dX12_gather_87 : decode cX12_gather 87 = .ok (.iaload, 1) := by decide +kernel
theorem dX12_gather_88 : decode cX12_gather 88 = .ok (.i2l, 1) := by decide +kernel
theorem dX12_gather_89 : decode cX12_gather 89 = .ok (.invokestatic 354, 3) := by decide +kernel
theorem dX12_gather_92 : decode cX12_gather 92 = .ok (.putfield 318, 3) := by decide +kernel
theorem dX12_gather_95 : decode cX12_gather 95 = .ok (.aload_n 0, 1) := by decide +kernel
theorem dX12_gather_96 : decode cX12_gather 96 = .ok (.dup, 1) := by decide +kernel
theorem dX12_gather_97 : decode cX12_gather 97 = .ok (.getfield 321, 3) := by decide +kernel
theorem dX12_gather_100 : decode cX12_gather 100 = .ok (.iload 4, 2) := by decide +kernel
theorem dX12_gather_102 : decode cX12_gather 102 = .ok (.i2l, 1) := by decide +kernel
theorem dX12_gather_103 : decode cX12_gather 103 = .ok (.aload_n 0, 1) := by decide +kernel
theorem dX12_gather_104 : decode cX12_gather 104 = .ok (.getfield 357, 3) := by decide +kernel
theorem dX12_gather_107 : decode cX12_gather 107 = .ok (.iload_n 3, 1) := by decide +kernel
theorem dX12_gather_108 : decode cX12_gather 108 = .ok (.iaload, 1) := by decide +kernel
theorem dX12_gather_109 : decode cX12_gather 109 = .ok (.i2l, 1) := by decide +kernel
theorem dX12_gather_110 : decode cX12_gather 110 = .ok (.lmul, 1) := by decide +kernel
theorem dX12_gather_111 : decode cX12_gather 111 = .ok (.ladd, 1) := by decide +kernel
theorem dX12_gather_112 : decode cX12_gather 112 = .ok (.putfield 321, 3) := by decide +kernel
theorem dX12_gather_115 : decode cX12_gather 115 = .ok (.aload_n 0, 1) := by decide +kernel
theorem dX12_gather_116 : decode cX12_gather 116 = .ok (.aload_n 0, 1) := by decide +kernel
theorem dX12_gather_117 : decode cX12_gather 117 = .ok (.getfield 357, 3) := by decide +kernel
theorem dX12_gather_120 : decode cX12_gather 120 = .ok (.iload_n 3, 1) := by decide +kernel
theorem dX12_gather_121 : decode cX12_gather 121 = .ok (.iaload, 1) := by decide +kernel
theorem dX12_gather_122 : decode cX12_gather 122 = .ok (.i2l, 1) := by decide +kernel
theorem dX12_gather_123 : decode cX12_gather 123 = .ok (.aload_n 0, 1) := by decide +kernel
theorem dX12_gather_124 : decode cX12_gather 124 = .ok (.getfield 324, 3) := by decide +kernel
theorem dX12_gather_127 : decode cX12_gather 127 = .ok (.lcmp, 1) := by decide +kernel
theorem dX12_gather_128 : decode cX12_gather 128 = .ok (.ifCond .le 13, 3) := by decide +kernel
theorem dX12_gather_131 : decode cX12_gather 131 = .ok (.aload_n 0, 1) := by decide +kernel
theorem dX12_gather_132 : decode cX12_gather 132 = .ok (.getfield 357, 3) := by decide +kernel
theorem dX12_gather_135 : decode cX12_gather 135 = .ok (.iload_n 3, 1) := by decide +kernel
theorem dX12_gather_136 : decode cX12_gather 136 = .ok (.iaload, 1) := by decide +kernel
theorem dX12_gather_137 : decode cX12_gather 137 = .ok (.i2l, 1) := by decide +kernel
theorem dX12_gather_138 : decode cX12_gather 138 = .ok (.goto 7, 3) := by decide +kernel
theorem dX12_gather_141 : decode cX12_gather 141 = .ok (.aload_n 0, 1) := by decide +kernel
theorem dX12_gather_142 : decode cX12_gather 142 = .ok (.getfield 324, 3) := by decide +kernel
theorem dX12_gather_145 : decode cX12_gather 145 = .ok (.putfield 324, 3) := by decide +kernel
theorem dX12_gather_148 : decode cX12_gather 148 = .ok (.aload_n 0, 1) := by decide +kernel
theorem dX12_gather_149 : decode cX12_gather 149 = .ok (.aload_n 0, 1) := by decide +kernel
theorem dX12_gather_150 : decode cX12_gather 150 = .ok (.getfield 360, 3) := by decide +kernel
theorem dX12_gather_153 : decode cX12_gather 153 = .ok (.iload_n 3, 1) := by decide +kernel
theorem dX12_gather_154 : decode cX12_gather 154 = .ok (.iaload, 1) := by decide +kernel
theorem dX12_gather_155 : decode cX12_gather 155 = .ok (.i2l, 1) := by decide +kernel
theorem dX12_gather_156 : decode cX12_gather 156 = .ok (.aload_n 0, 1) := by decide +kernel
theorem dX12_gather_157 : decode cX12_gather 157 = .ok (.getfield 327, 3) := by decide +kernel
theorem dX12_gather_160 : decode cX12_gather 160 = .ok (.lcmp, 1) := by decide +kernel
theorem dX12_gather_161 : decode cX12_gather 161 = .ok (.ifCond .le 13, 3) := by decide +kernel
theorem dX12_gather_164 : decode cX12_gather 164 = .ok (.aload_n 0, 1) := by decide +kernel
theorem dX12_gather_165 : decode cX12_gather 165 = .ok (.getfield 360, 3) := by decide +kernel
theorem dX12_gather_168 : decode cX12_gather 168 = .ok (.iload_n 3, 1) := by decide +kernel
theorem dX12_gather_169 : decode cX12_gather 169 = .ok (.iaload, 1) := by decide +kernel
theorem dX12_gather_170 : decode cX12_gather 170 = .ok (.i2l, 1) := by decide +kernel
theorem dX12_gather_171 : decode cX12_gather 171 = .ok (.goto 7, 3) := by decide +kernel
theorem dX12_gather_174 : decode cX12_gather 174 = .ok (.aload_n 0, 1) := by decide +kernel
theorem dX12_gather_175 : decode cX12_gather 175 = .ok (.getfield 327, 3) := by decide +kernel
theorem dX12_gather_178 : decode cX12_gather 178 = .ok (.putfield 327, 3) := by decide +kernel
theorem dX12_gather_181 : decode cX12_gather 181 = .ok (.aload_n 0, 1) := by decide +kernel
theorem dX12_gather_182 : decode cX12_gather 182 = .ok (.dup, 1) := by decide +kernel
theorem dX12_gather_183 : decode cX12_gather 183 = .ok (.getfield 330, 3) := by decide +kernel
theorem dX12_gather_186 : decode cX12_gather 186 = .ok (.iload 4, 2) := by decide +kernel
theorem dX12_gather_188 : decode cX12_gather 188 = .ok (.i2l, 1) := by decide +kernel
theorem dX12_gather_189 : decode cX12_gather 189 = .ok (.aload_n 0, 1) := by decide +kernel
theorem dX12_gather_190 : decode cX12_gather 190 = .ok (.getfield 363, 3) := by decide +kernel
theorem dX12_gather_193 : decode cX12_gather 193 = .ok (.iload_n 3, 1) := by decide +kernel
theorem dX12_gather_194 : decode cX12_gather 194 = .ok (.iaload, 1) := by decide +kernel
theorem dX12_gather_195 : decode cX12_gather 195 = .ok (.i2l, 1) := by decide +kernel
theorem dX12_gather_196 : decode cX12_gather 196 = .ok (.lmul, 1) := by decide +kernel
theorem dX12_gather_197 : decode cX12_gather 197 = .ok (.ladd, 1) := by decide +kernel
theorem dX12_gather_198 : decode cX12_gather 198 = .ok (.putfield 330, 3) := by decide +kernel
theorem dX12_gather_201 : decode cX12_gather 201 = .ok (.aload_n 0, 1) := by decide +kernel
theorem dX12_gather_202 : decode cX12_gather 202 = .ok (.aload_n 0, 1) := by decide +kernel
theorem dX12_gather_203 : decode cX12_gather 203 = .ok (.getfield 363, 3) := by decide +kernel
theorem dX12_gather_206 : decode cX12_gather 206 = .ok (.iload_n 3, 1) := by decide +kernel
theorem dX12_gather_207 : decode cX12_gather 207 = .ok (.iaload, 1) := by decide +kernel
theorem dX12_gather_208 : decode cX12_gather 208 = .ok (.i2l, 1) := by decide +kernel
theorem dX12_gather_209 : decode cX12_gather 209 = .ok (.aload_n 0, 1) := by decide +kernel
theorem dX12_gather_210 : decode cX12_gather 210 = .ok (.getfield 333, 3) := by decide +kernel
theorem dX12_gather_213 : decode cX12_gather 213 = .ok (.lcmp, 1) := by decide +kernel
theorem dX12_gather_214 : decode cX12_gather 214 = .ok (.ifCond .le 13, 3) := by decide +kernel
theorem dX12_gather_217 : decode cX12_gather 217 = .ok (.aload_n 0, 1) := by decide +kernel
theorem dX12_gather_218 : decode cX12_gather 218 = .ok (.getfield 363, 3) := by decide +kernel
theorem dX12_gather_221 : decode cX12_gather 221 = .ok (.iload_n 3, 1) := by decide +kernel
theorem dX12_gather_222 : decode cX12_gather 222 = .ok (.iaload, 1) := by decide +kernel
theorem dX12_gather_223 : decode cX12_gather 223 = .ok (.i2l, 1) := by decide +kernel
theorem dX12_gather_224 : decode cX12_gather 224 = .ok (.goto 7, 3) := by decide +kernel
theorem dX12_gather_227 : decode cX12_gather 227 = .ok (.aload_n 0, 1) := by decide +kernel
theorem dX12_gather_228 : decode cX12_gather 228 = .ok (.getfield 333, 3) := by decide +kernel
theorem dX12_gather_231 : decode cX12_gather 231 = .ok (.putfield 333, 3) := by decide +kernel
theorem dX12_gather_234 : decode cX12_gather 234 = .ok (.aload_n 0, 1) := by decide +kernel
theorem dX12_gather_235 : decode cX12_gather 235 = .ok (.aload_n 0, 1) := by decide +kernel
theorem dX12_gather_236 : decode cX12_gather 236 = .ok (.getfield 366, 3) := by decide +kernel
theorem dX12_gather_239 : decode cX12_gather 239 = .ok (.iload_n 3, 1) := by decide +kernel
theorem dX12_gather_240 : decode cX12_gather 240 = .ok (.iaload, 1) := by decide +kernel
theorem dX12_gather_241 : decode cX12_gather 241 = .ok (.aload_n 0, 1) := by decide +kernel
theorem dX12_gather_242 : decode cX12_gather 242 = .ok (.getfield 336, 3) := by decide +kernel
theorem dX12_gather_245 : decode cX12_gather 245 = .ok (.if_icmp .le 12, 3) := by decide +kernel
theorem dX12_gather_248 : decode cX12_gather 248 = .ok (.aload_n 0, 1) := by decide +kernel
theorem dX12_gather_249 : decode cX12_gather 249 = .ok (.getfield 366, 3) := by decide +kernel
theorem dX12_gather_252 : decode cX12_gather 252 = .ok (.iload_n 3, 1) := by decide +kernel
theorem dX12_gather_253 : decode cX12_gather 253 = .ok (.iaload, 1) := by decide +kernel
theorem dX12_gather_254 : decode cX12_gather 254 = .ok (.goto 7, 3) := by decide +kernel
theorem dX12_gather_257 : decode cX12_gather 257 = .ok (.aload_n 0, 1) := by decide +kernel
theorem dX12_gather_258 : decode cX12_gather 258 = .ok (.getfield 336, 3) := by decide +kernel
theorem dX12_gather_261 : decode cX12_gather 261 = .ok (.putfield 336, 3) := by decide +kernel
theorem dX12_gather_264 : decode cX12_gather 264 = .ok (.iinc 2 1, 3) := by decide +kernel
theorem dX12_gather_267 : decode cX12_gather 267 = .ok (.goto (-225), 3) := by decide +kernel
theorem dX12_gather_270 : decode cX12_gather 270 = .ok (.return_, 1) := by decide +kernel
theorem dX12_addKid_0 : decode cX12_addKid 0 = .ok (.aload_n 0, 1) := by decide +kernel
theorem dX12_addKid_1 : decode cX12_addKid 1 = .ok (.getfield 345, 3) := by decide +kernel
theorem dX12_addKid_4 : decode cX12_addKid 4 = .ok (.aload_n 0, 1) := by decide +kernel
theorem dX12_addKid_5 : decode cX12_addKid 5 = .ok (.getfield 369, 3) := by decide +kernel
theorem dX12_addKid_8 : decode cX12_addKid 8 = .ok (.iload_n 1, 1) := by decide +kernel
theorem dX12_addKid_9 : decode cX12_addKid 9 = .ok (.iastore, 1) := by decide +kernel
theorem dX12_addKid_10 : decode cX12_addKid 10 = .ok (.aload_n 0, 1) := by decide +kernel
theorem dX12_addKid_11 : decode cX12_addKid 11 = .ok (.getfield 348, 3) := by decide +kernel
theorem dX12_addKid_14 : decode cX12_addKid 14 = .ok (.aload_n 0, 1) := by decide +kernel
theorem dX12_addKid_15 : decode cX12_addKid 15 = .ok (.getfield 369, 3) := by decide +kernel
theorem dX12_addKid_18 : decode cX12_addKid 18 = .ok (.iload_n 2, 1) := by decide +kernel
theorem dX12_addKid_19 : decode cX12_addKid 19 = .ok (.bipush 32, 2) := by decide +kernel
theorem dX12_addKid_21 : decode cX12_addKid 21 = .ok (.iload_n 3, 1) := by decide +kernel
theorem dX12_addKid_22 : decode cX12_addKid 22 = .ok (.imul, 1) := by decide +kernel
theorem dX12_addKid_23 : decode cX12_addKid 23 = .ok (.iadd, 1) := by decide +kernel
theorem dX12_addKid_24 : decode cX12_addKid 24 = .ok (.iastore, 1) := by decide +kernel
theorem dX12_addKid_25 : decode cX12_addKid 25 = .ok (.aload_n 0, 1) := by decide +kernel
theorem dX12_addKid_26 : decode cX12_addKid 26 = .ok (.dup, 1) := by decide +kernel
theorem dX12_addKid_27 : decode cX12_addKid 27 = .ok (.getfield 369, 3) := by decide +kernel
theorem dX12_addKid_30 : decode cX12_addKid 30 = .ok (.iconst 1, 1) := by decide +kernel
theorem dX12_addKid_31 : decode cX12_addKid 31 = .ok (.iadd, 1) := by decide +kernel
theorem dX12_addKid_32 : decode cX12_addKid 32 = .ok (.putfield 369, 3) := by decide +kernel
theorem dX12_addKid_35 : decode cX12_addKid 35 = .ok (.aload_n 0, 1) := by decide +kernel
theorem dX12_addKid_36 : decode cX12_addKid 36 = .ok (.getfield 342, 3) := by decide +kernel
theorem dX12_addKid_39 : decode cX12_addKid 39 = .ok (.aload_n 0, 1) := by decide +kernel
theorem dX12_addKid_40 : decode cX12_addKid 40 = .ok (.getfield 372, 3) := by decide +kernel
theorem dX12_addKid_43 : decode cX12_addKid 43 = .ok (.dup2, 1) := by decide +kernel
theorem dX12_addKid_44 : decode cX12_addKid 44 = .ok (.iaload, 1) := by decide +kernel
theorem dX12_addKid_45 : decode cX12_addKid 45 = .ok (.iconst 1, 1) := by decide +kernel
theorem dX12_addKid_46 : decode cX12_addKid 46 = .ok (.iadd, 1) := by decide +kernel
theorem dX12_addKid_47 : decode cX12_addKid 47 = .ok (.iastore, 1) := by decide +kernel
theorem dX12_addKid_48 : decode cX12_addKid 48 = .ok (.return_, 1) := by decide +kernel
theorem dX12_opens_0 : decode cX12_opens 0 = .ok (.aload_n 0, 1) := by decide +kernel
theorem dX12_opens_1 : decode cX12_opens 1 = .ok (.getfield 372, 3) := by decide +kernel
theorem dX12_opens_4 : decode cX12_opens 4 = .ok (.istore 6, 2) := by decide +kernel
theorem dX12_opens_6 : decode cX12_opens 6 = .ok (.aload_n 0, 1) := by decide +kernel
theorem dX12_opens_7 : decode cX12_opens 7 = .ok (.getfield 375, 3) := by decide +kernel
theorem dX12_opens_10 : decode cX12_opens 10 = .ok (.iload 6, 2) := by decide +kernel
theorem dX12_opens_12 : decode cX12_opens 12 = .ok (.iload_n 1, 1) := by decide +kernel
theorem dX12_opens_13 : decode cX12_opens 13 = .ok (.iastore, 1) := by decide +kernel
theorem dX12_opens_14 : decode cX12_opens 14 = .ok (.aload_n 0, 1) := by decide +kernel
theorem dX12_opens_15 : decode cX12_opens 15 = .ok (.getfield 378, 3) := by decide +kernel
theorem dX12_opens_18 : decode cX12_opens 18 = .ok (.iload 6, 2) := by decide +kernel
theorem dX12_opens_20 : decode cX12_opens 20 = .ok (.iload_n 2, 1) := by decide +kernel
theorem dX12_opens_21 : decode cX12_opens 21 = .ok (.iastore, 1) := by decide +kernel
theorem dX12_opens_22 : decode cX12_opens 22 = .ok (.aload_n 0, 1) := by decide +kernel
theorem dX12_opens_23 : decode cX12_opens 23 = .ok (.getfield 381, 3) := by decide +kernel
theorem dX12_opens_26 : decode cX12_opens 26 = .ok (.iload 6, 2) := by decide +kernel
theorem dX12_opens_28 : decode cX12_opens 28 = .ok (.iload_n 3, 1) := by decide +kernel
theorem dX12_opens_29 : decode cX12_opens 29 = .ok (.iastore, 1) := by decide +kernel
theorem dX12_opens_30 : decode cX12_opens 30 = .ok (.aload_n 0, 1) := by decide +kernel
theorem dX12_opens_31 : decode cX12_opens 31 = .ok (.getfield 384, 3) := by decide +kernel
theorem dX12_opens_34 : decode cX12_opens 34 = .ok (.iload 6, 2) := by decide +kernel
theorem dX12_opens_36 : decode cX12_opens 36 = .ok (.iload 4, 2) := by decide +kernel
theorem dX12_opens_38 : decode cX12_opens 38 = .ok (.iastore, 1) := by decide +kernel
theorem dX12_opens_39 : decode cX12_opens 39 = .ok (.aload_n 0, 1) := by decide +kernel
theorem dX12_opens_40 : decode cX12_opens 40 = .ok (.getfield 387, 3) := by decide +kernel
theorem dX12_opens_43 : decode cX12_opens 43 = .ok (.iload 6, 2) := by decide +kernel
theorem dX12_opens_45 : decode cX12_opens 45 = .ok (.iload 5, 2) := by decide +kernel
theorem dX12_opens_47 : decode cX12_opens 47 = .ok (.iastore, 1) := by decide +kernel
theorem dX12_opens_48 : decode cX12_opens 48 = .ok (.aload_n 0, 1) := by decide +kernel
theorem dX12_opens_49 : decode cX12_opens 49 = .ok (.getfield 339, 3) := by decide +kernel
theorem dX12_opens_52 : decode cX12_opens 52 = .ok (.iload 6, 2) := by decide +kernel
theorem dX12_opens_54 : decode cX12_opens 54 = .ok (.aload_n 0, 1) := by decide +kernel
theorem dX12_opens_55 : decode cX12_opens 55 = .ok (.getfield 369, 3) := by decide +kernel
theorem dX12_opens_58 : decode cX12_opens 58 = .ok (.iastore, 1) := by decide +kernel
theorem dX12_opens_59 : decode cX12_opens 59 = .ok (.aload_n 0, 1) := by decide +kernel
theorem dX12_opens_60 : decode cX12_opens 60 = .ok (.getfield 342, 3) := by decide +kernel
theorem dX12_opens_63 : decode cX12_opens 63 = .ok (.iload 6, 2) := by decide +kernel
theorem dX12_opens_65 : decode cX12_opens 65 = .ok (.iconst 0, 1) := by decide +kernel
theorem dX12_opens_66 : decode cX12_opens 66 = .ok (.iastore, 1) := by decide +kernel
theorem dX12_opens_67 : decode cX12_opens 67 = .ok (.return_, 1) := by decide +kernel
theorem dX12_made_0 : decode cX12_made 0 = .ok (.aload_n 0, 1) := by decide +kernel
theorem dX12_made_1 : decode cX12_made 1 = .ok (.getfield 372, 3) := by decide +kernel
theorem dX12_made_4 : decode cX12_made 4 = .ok (.istore_n 2, 1) := by decide +kernel
theorem dX12_made_5 : decode cX12_made 5 = .ok (.aload_n 0, 1) := by decide +kernel
theorem dX12_made_6 : decode cX12_made 6 = .ok (.iload_n 1, 1) := by decide +kernel
theorem dX12_made_7 : decode cX12_made 7 = .ok (.invokevirtual 309, 3) := by decide +kernel
theorem dX12_made_10 : decode cX12_made 10 = .ok (.istore_n 3, 1) := by decide +kernel
theorem dX12_made_11 : decode cX12_made 11 = .ok (.aload_n 0, 1) := by decide +kernel
theorem dX12_made_12 : decode cX12_made 12 = .ok (.getfield 306, 3) := by decide +kernel
theorem dX12_made_15 : decode cX12_made 15 = .ok (.sipush 200, 3) := by decide +kernel
theorem dX12_made_18 : decode cX12_made 18 = .ok (.if_icmp .ne 10, 3) := by decide +kernel
theorem dX12_made_21 : decode cX12_made 21 = .ok (.aload_n 0, 1) := by decide +kernel
theorem dX12_made_22 : decode cX12_made 22 = .ok (.iconst 5, 1) := by decide +kernel
theorem dX12_made_23 : decode cX12_made 23 = .ok (.iload_n 3, 1) := by decide +kernel
theorem dX12_made_24 : decode cX12_made 24 = .ok (.invokevirtual 237, 3) := by decide +kernel
theorem dX12_made_27 : decode cX12_made 27 = .ok (.return_, 1) := by decide +kernel
theorem dX12_made_28 : decode cX12_made 28 = .ok (.aload_n 0, 1) := by decide +kernel
theorem dX12_made_29 : decode cX12_made 29 = .ok (.iload_n 2, 1) := by decide +kernel
theorem dX12_made_30 : decode cX12_made 30 = .ok (.invokevirtual 390, 3) := by decide +kernel
theorem dX12_made_33 : decode cX12_made 33 = .ok (.aload_n 0, 1) := by decide +kernel
theorem dX12_made_34 : decode cX12_made 34 = .ok (.iload_n 2, 1) := by decide +kernel
theorem dX12_made_35 : decode cX12_made 35 = .ok (.invokevirtual 393, 3) := by decide +kernel
theorem dX12_made_38 : decode cX12_made 38 = .ok (.aload_n 0, 1) := by decide +kernel
theorem dX12_made_39 : decode cX12_made 39 = .ok (.getfield 396, 3) := by decide +kernel
theorem dX12_made_42 : decode cX12_made 42 = .ok (.ldc2_w 399, 3) := by decide +kernel
theorem dX12_made_45 : decode cX12_made 45 = .ok (.lcmp, 1) := by decide +kernel
theorem dX12_made_46 : decode cX12_made 46 = .ok (.ifCond .le 13, 3) := by decide +kernel
theorem dX12_made_49 : decode cX12_made 49 = .ok (.aload_n 0, 1) := by decide +kernel
theorem dX12_made_50 : decode cX12_made 50 = .ok (.bipush 6, 2) := by decide +kernel
theorem dX12_made_52 : decode cX12_made 52 = .ok (.iload_n 3, 1) := by decide +kernel
theorem dX12_made_53 : decode cX12_made 53 = .ok (.invokevirtual 237, 3) := by decide +kernel
theorem dX12_made_56 : decode cX12_made 56 = .ok (.goto 84, 3) := by decide +kernel
theorem dX12_made_59 : decode cX12_made 59 = .ok (.aload_n 0, 1) := by decide +kernel
theorem dX12_made_60 : decode cX12_made 60 = .ok (.getfield 401, 3) := by decide +kernel
theorem dX12_made_63 : decode cX12_made 63 = .ok (.ldc2_w 404, 3) := by decide +kernel
theorem dX12_made_66 : decode cX12_made 66 = .ok (.lcmp, 1) := by decide +kernel
theorem dX12_made_67 : decode cX12_made 67 = .ok (.ifCond .le 13, 3) := by decide +kernel
theorem dX12_made_70 : decode cX12_made 70 = .ok (.aload_n 0, 1) := by decide +kernel
theorem dX12_made_71 : decode cX12_made 71 = .ok (.bipush 7, 2) := by decide +kernel
theorem dX12_made_73 : decode cX12_made 73 = .ok (.iload_n 3, 1) := by decide +kernel
theorem dX12_made_74 : decode cX12_made 74 = .ok (.invokevirtual 237, 3) := by decide +kernel
theorem dX12_made_77 : decode cX12_made 77 = .ok (.goto 63, 3) := by decide +kernel
theorem dX12_made_80 : decode cX12_made 80 = .ok (.aload_n 0, 1) := by decide +kernel
theorem dX12_made_81 : decode cX12_made 81 = .ok (.getfield 406, 3) := by decide +kernel
theorem dX12_made_84 : decode cX12_made 84 = .ok (.ldc2_w 409, 3) := by decide +kernel
theorem dX12_made_87 : decode cX12_made 87 = .ok (.lcmp, 1) := by decide +kernel
theorem dX12_made_88 : decode cX12_made 88 = .ok (.ifCond .le 13, 3) := by decide +kernel
theorem dX12_made_91 : decode cX12_made 91 = .ok (.aload_n 0, 1) := by decide +kernel
theorem dX12_made_92 : decode cX12_made 92 = .ok (.bipush 8, 2) := by decide +kernel
theorem dX12_made_94 : decode cX12_made 94 = .ok (.iload_n 3, 1) := by decide +kernel
theorem dX12_made_95 : decode cX12_made 95 = .ok (.invokevirtual 237, 3) := by decide +kernel
theorem dX12_made_98 : decode cX12_made 98 = .ok (.goto 42, 3) := by decide +kernel
theorem dX12_made_101 : decode cX12_made 101 = .ok (.aload_n 0, 1) := by decide +kernel
theorem dX12_made_102 : decode cX12_made 102 = .ok (.getfield 411, 3) := by decide +kernel
theorem dX12_made_105 : decode cX12_made 105 = .ok (.ldc2_w 414, 3) := by decide +kernel
theorem dX12_made_108 : decode cX12_made 108 = .ok (.lcmp, 1) := by decide +kernel
theorem dX12_made_109 : decode cX12_made 109 = .ok (.ifCond .le 13, 3) := by decide +kernel
theorem dX12_made_112 : decode cX12_made 112 = .ok (.aload_n 0, 1) := by decide +kernel
theorem dX12_made_113 : decode cX12_made 113 = .ok (.bipush 9, 2) := by decide +kernel
theorem dX12_made_115 : decode cX12_made 115 = .ok (.iload_n 3, 1) := by decide +kernel
theorem dX12_made_116 : decode cX12_made 116 = .ok (.invokevirtual 237, 3) := by decide +kernel
theorem dX12_made_119 : decode cX12_made 119 = .ok (.goto 21, 3) := by decide +kernel
theorem dX12_made_122 : decode cX12_made 122 = .ok (.aload_n 0, 1) := by decide +kernel
theorem dX12_made_123 : decode cX12_made 123 = .ok (.getfield 336, 3) := by decide +kernel
theorem dX12_made_126 : decode cX12_made 126 = .ok (.iconst 1, 1) := by decide +kernel
theorem dX12_made_127 : decode cX12_made 127 = .ok (.iadd, 1) := by decide +kernel
theorem dX12_made_128 : decode cX12_made 128 = .ok (.bipush 60, 2) := by decide +kernel
theorem dX12_made_130 : decode cX12_made 130 = .ok (.if_icmp .le 10, 3) := by decide +kernel
theorem dX12_made_133 : decode cX12_made 133 = .ok (.aload_n 0, 1) := by decide +kernel
theorem dX12_made_134 : decode cX12_made 134 = .ok (.bipush 10, 2) := by decide +kernel
theorem dX12_made_136 : decode cX12_made 136 = .ok (.iload_n 3, 1) := by decide +kernel
theorem dX12_made_137 : decode cX12_made 137 = .ok (.invokevirtual 237, 3) := by decide +kernel
theorem dX12_made_140 : decode cX12_made 140 = .ok (.aload_n 0, 1) := by decide +kernel
theorem dX12_made_141 : decode cX12_made 141 = .ok (.getfield 41, 3) := by decide +kernel
theorem dX12_made_144 : decode cX12_made 144 = .ok (.ifCond .eq 4, 3) := by decide +kernel
theorem dX12_made_147 : decode cX12_made 147 = .ok (.return_, 1) := by decide +kernel
theorem dX12_made_148 : decode cX12_made 148 = .ok (.aload_n 0, 1) := by decide +kernel
theorem dX12_made_149 : decode cX12_made 149 = .ok (.getfield 351, 3) := by decide +kernel
theorem dX12_made_152 : decode cX12_made 152 = .ok (.iload_n 2, 1) := by decide +kernel
theorem dX12_made_153 : decode cX12_made 153 = .ok (.aload_n 0, 1) := by decide +kernel
theorem dX12_made_154 : decode cX12_made 154 = .ok (.getfield 396, 3) := by decide +kernel
theorem dX12_made_157 : decode cX12_made 157 = .ok (.l2i, 1) := by decide +kernel
theorem dX12_made_158 : decode cX12_made 158 = .ok (.iastore, 1) := by decide +kernel
theorem dX12_made_159 : decode cX12_made 159 = .ok (.aload_n 0, 1) := by decide +kernel
theorem dX12_made_160 : decode cX12_made 160 = .ok (.getfield 357, 3) := by decide +kernel
theorem dX12_made_163 : decode cX12_made 163 = .ok (.iload_n 2, 1) := by decide +kernel
theorem dX12_made_164 : decode cX12_made 164 = .ok (.aload_n 0, 1) := by decide +kernel
theorem dX12_made_165 : decode cX12_made 165 = .ok (.getfield 401, 3) := by decide +kernel
theorem dX12_made_168 : decode cX12_made 168 = .ok (.l2i, 1) := by decide +kernel
theorem dX12_made_169 : decode cX12_made 169 = .ok (.iastore, 1) := by decide +kernel
theorem dX12_made_170 : decode cX12_made 170 = .ok (.aload_n 0, 1) := by decide +kernel
theorem dX12_made_171 : decode cX12_made 171 = .ok (.getfield 360, 3) := by decide +kernel
theorem dX12_made_174 : decode cX12_made 174 = .ok (.iload_n 2, 1) := by decide +kernel
theorem dX12_made_175 : decode cX12_made 175 = .ok (.aload_n 0, 1) := by decide +kernel
theorem dX12_made_176 : decode cX12_made 176 = .ok (.getfield 406, 3) := by decide +kernel
theorem dX12_made_179 : decode cX12_made 179 = .ok (.l2i, 1) := by decide +kernel
theorem dX12_made_180 : decode cX12_made 180 = .ok (.iastore, 1) := by decide +kernel
theorem dX12_made_181 : decode cX12_made 181 = .ok (.aload_n 0, 1) := by decide +kernel
theorem dX12_made_182 : decode cX12_made 182 = .ok (.getfield 363, 3) := by decide +kernel
theorem dX12_made_185 : decode cX12_made 185 = .ok (.iload_n 2, 1) := by decide +kernel
theorem dX12_made_186 : decode cX12_made 186 = .ok (.aload_n 0, 1) := by decide +kernel
theorem dX12_made_187 : decode cX12_made 187 = .ok (.getfield 411, 3) := by decide +kernel
theorem dX12_made_190 : decode cX12_made 190 = .ok (.l2i, 1) := by decide +kernel
theorem dX12_made_191 : decode cX12_made 191 = .ok (.iastore, 1) := by decide +kernel
theorem dX12_made_192 : decode cX12_made 192 = .ok (.aload_n 0, 1) := by decide +kernel
theorem dX12_made_193 : decode cX12_made 193 = .ok (.getfield 366, 3) := by decide +kernel
theorem dX12_made_196 : decode cX12_made 196 = .ok (.iload_n 2, 1) := by decide +kernel
theorem dX12_made_197 : decode cX12_made 197 = .ok (.aload_n 0, 1) := by decide +kernel
theorem dX12_made_198 : decode cX12_made 198 = .ok (.getfield 336, 3) := by decide +kernel
theorem dX12_made_201 : decode cX12_made 201 = .ok (.iconst 1, 1) := by decide +kernel
theorem dX12_made_202 : decode cX12_made 202 = .ok (.iadd, 1) := by decide +kernel
theorem dX12_made_203 : decode cX12_made 203 = .ok (.iastore, 1) := by decide +kernel
theorem dX12_made_204 : decode cX12_made 204 = .ok (.aload_n 0, 1) := by decide +kernel
theorem dX12_made_205 : decode cX12_made 205 = .ok (.dup, 1) := by decide +kernel
theorem dX12_made_206 : decode cX12_made 206 = .ok (.getfield 372, 3) := by decide +kernel
theorem dX12_made_209 : decode cX12_made 209 = .ok (.iconst 1, 1) := by decide +kernel
theorem dX12_made_210 : decode cX12_made 210 = .ok (.iadd, 1) := by decide +kernel
theorem dX12_made_211 : decode cX12_made 211 = .ok (.putfield 372, 3) := by decide +kernel
theorem dX12_made_214 : decode cX12_made 214 = .ok (.aload_n 0, 1) := by decide +kernel
theorem dX12_made_215 : decode cX12_made 215 = .ok (.dup, 1) := by decide +kernel
theorem dX12_made_216 : decode cX12_made 216 = .ok (.getfield 306, 3) := by decide +kernel
theorem dX12_made_219 : decode cX12_made 219 = .ok (.iconst 1, 1) := by decide +kernel
theorem dX12_made_220 : decode cX12_made 220 = .ok (.iadd, 1) := by decide +kernel
theorem dX12_made_221 : decode cX12_made 221 = .ok (.putfield 306, 3) := by decide +kernel
theorem dX12_made_224 : decode cX12_made 224 = .ok (.aload_n 0, 1) := by decide +kernel
theorem dX12_made_225 : decode cX12_made 225 = .ok (.iload_n 2, 1) := by decide +kernel
theorem dX12_made_226 : decode cX12_made 226 = .ok (.invokevirtual 416, 3) := by decide +kernel
theorem dX12_made_229 : decode cX12_made 229 = .ok (.return_, 1) := by decide +kernel
theorem dX12_bounds_0 : decode cX12_bounds 0 = .ok (.aload_n 0, 1) := by decide +kernel
theorem dX12_bounds_1 : decode cX12_bounds 1 = .ok (.lload_n 1, 1) := by decide +kernel
theorem dX12_bounds_2 : decode cX12_bounds 2 = .ok (.putfield 396, 3) := by decide +kernel
theorem dX12_bounds_5 : decode cX12_bounds 5 = .ok (.aload_n 0, 1) := by decide +kernel
theorem dX12_bounds_6 : decode cX12_bounds 6 = .ok (.lload_n 3, 1) := by decide +kernel
theorem dX12_bounds_7 : decode cX12_bounds 7 = .ok (.putfield 401, 3) := by decide +kernel
theorem dX12_bounds_10 : decode cX12_bounds 10 = .ok (.aload_n 0, 1) := by decide +kernel
theorem dX12_bounds_11 : decode cX12_bounds 11 = .ok (.lload 5, 2) := by decide +kernel
theorem dX12_bounds_13 : decode cX12_bounds 13 = .ok (.putfield 406, 3) := by decide +kernel
theorem dX12_bounds_16 : decode cX12_bounds 16 = .ok (.aload_n 0, 1) := by decide +kernel
theorem dX12_bounds_17 : decode cX12_bounds 17 = .ok (.lload 7, 2) := by decide +kernel
theorem dX12_bounds_19 : decode cX12_bounds 19 = .ok (.putfield 411, 3) := by decide +kernel
theorem dX12_bounds_22 : decode cX12_bounds 22 = .ok (.return_, 1) := by decide +kernel
theorem dX12_weights_0 : decode cX12_weights 0 = .ok (.lconst 0, 1) := by decide +kernel
theorem dX12_weights_1 : decode cX12_weights 1 = .ok (.lstore_n 2, 1) := by decide +kernel
theorem dX12_weights_2 : decode cX12_weights 2 = .ok (.aload_n 0, 1) := by decide +kernel
theorem dX12_weights_3 : decode cX12_weights 3 = .ok (.getfield 339, 3) := by decide +kernel
theorem dX12_weights_6 : decode cX12_weights 6 = .ok (.iload_n 1, 1) := by decide +kernel
theorem dX12_weights_7 : decode cX12_weights 7 = .ok (.iaload, 1) := by decide +kernel
theorem dX12_weights_8 : decode cX12_weights 8 = .ok (.istore 4, 2) := by decide +kernel
theorem dX12_weights_10 : decode cX12_weights 10 = .ok (.iload 4, 2) := by decide +kernel
theorem dX12_weights_12 : decode cX12_weights 12 = .ok (.aload_n 0, 1) := by decide +kernel
theorem dX12_weights_13 : decode cX12_weights 13 = .ok (.getfield 339, 3) := by decide +kernel
theorem dX12_weights_16 : decode cX12_weights 16 = .ok (.iload_n 1, 1) := by decide +kernel
theorem dX12_weights_17 : decode cX12_weights 17 = .ok (.iaload, 1) := by decide +kernel
theorem dX12_weights_18 : decode cX12_weights 18 = .ok (.aload_n 0, 1) := by decide +kernel
theorem dX12_weights_19 : decode cX12_weights 19 = .ok (.getfield 342, 3) := by decide +kernel
theorem dX12_weights_22 : decode cX12_weights 22 = .ok (.iload_n 1, 1) := by decide +kernel
theorem dX12_weights_23 : decode cX12_weights 23 = .ok (.iaload, 1) := by decide +kernel
theorem dX12_weights_24 : decode cX12_weights 24 = .ok (.iadd, 1) := by decide +kernel
theorem dX12_weights_25 : decode cX12_weights 25 = .ok (.if_icmp .ge 35, 3) := by decide +kernel
theorem dX12_weights_28 : decode cX12_weights 28 = .ok (.lload_n 2, 1) := by decide +kernel
theorem dX12_weights_29 : decode cX12_weights 29 = .ok (.aload_n 0, 1) := by decide +kernel
theorem dX12_weights_30 : decode cX12_weights 30 = .ok (.getfield 348, 3) := by decide +kernel
theorem dX12_weights_33 : decode cX12_weights 33 = .ok (.iload 4, 2) := by decide +kernel
theorem dX12_weights_35 : decode cX12_weights 35 = .ok (.iaload, 1) := by decide +kernel
theorem dX12_weights_36 : decode cX12_weights 36 = .ok (.bipush 32, 2) := by decide +kernel
theorem dX12_weights_38 : decode cX12_weights 38 = .ok (.irem, 1) := by decide +kernel
theorem dX12_weights_39 : decode cX12_weights 39 = .ok (.i2l, 1) := by decide +kernel
theorem dX12_weights_40 : decode cX12_weights 40 = .ok (.aload_n 0, 1) := by decide +kernel
theorem dX12_weights_41 : decode cX12_weights 41 = .ok (.getfield 348, 3) := by decide +kernel
theorem dX12_weights_44 : decode cX12_weights 44 = .ok (.iload 4, 2) := by decide +kernel
theorem dX12_weights_46 : decode cX12_weights 46 = .ok (.iaload, 1) := by decide +kernel
theorem dX12_weights_47 : decode cX12_weights 47 = .ok (.bipush 32, 2) := by decide +kernel
theorem dX12_weights_49 : decode cX12_weights 49 = .ok (.idiv, 1) := by decide +kernel
theorem dX12_weights_50 : decode cX12_weights 50 = .ok (.i2l, 1) := by decide +kernel
theorem dX12_weights_51 : decode cX12_weights 51 = .ok (.lmul, 1) := by decide +kernel
theorem dX12_weights_52 : decode cX12_weights 52 = .ok (.ladd, 1) := by decide +kernel
theorem dX12_weights_53 : decode cX12_weights 53 = .ok (.lstore_n 2, 1) := by decide +kernel
theorem dX12_weights_54 : decode cX12_weights 54 = .ok (.iinc 4 1, 3) := by decide +kernel
theorem dX12_weights_57 : decode cX12_weights 57 = .ok (.goto (-47), 3) := by decide +kernel
theorem dX12_weights_60 : decode cX12_weights 60 = .ok (.lload_n 2, 1) := by decide +kernel
theorem dX12_weights_61 : decode cX12_weights 61 = .ok (.lreturn, 1) := by decide +kernel
theorem dX12_boundsOf_0 : decode cX12_boundsOf 0 = .ok (.aload_n 0, 1) := by decide +kernel
theorem dX12_boundsOf_1 : decode cX12_boundsOf 1 = .ok (.getfield 378, 3) := by decide +kernel
theorem dX12_boundsOf_4 : decode cX12_boundsOf 4 = .ok (.iload_n 1, 1) := by decide +kernel
theorem dX12_boundsOf_5 : decode cX12_boundsOf 5 = .ok (.iaload, 1) := by decide +kernel
theorem dX12_boundsOf_6 : decode cX12_boundsOf 6 = .ok (.istore_n 2, 1) := by decide +kernel
theorem dX12_boundsOf_7 : decode cX12_boundsOf 7 = .ok (.aload_n 0, 1) := by decide +kernel
theorem dX12_boundsOf_8 : decode cX12_boundsOf 8 = .ok (.getfield 381, 3) := by decide +kernel
theorem dX12_boundsOf_11 : decode cX12_boundsOf 11 = .ok (.iload_n 1, 1) := by decide +kernel
theorem dX12_boundsOf_12 : decode cX12_boundsOf 12 = .ok (.iaload, 1) := by decide +kernel
theorem dX12_boundsOf_13 : decode cX12_boundsOf 13 = .ok (.istore_n 3, 1) := by decide +kernel
theorem dX12_boundsOf_14 : decode cX12_boundsOf 14 = .ok (.aload_n 0, 1) := by decide +kernel
theorem dX12_boundsOf_15 : decode cX12_boundsOf 15 = .ok (.getfield 333, 3) := by decide +kernel
theorem dX12_boundsOf_18 : decode cX12_boundsOf 18 = .ok (.lconst 1, 1) := by decide +kernel
theorem dX12_boundsOf_19 : decode cX12_boundsOf 19 = .ok (.ladd, 1) := by decide +kernel
theorem dX12_boundsOf_20 : decode cX12_boundsOf 20 = .ok (.lstore 4, 2) := by decide +kernel
theorem dX12_boundsOf_22 : decode cX12_boundsOf 22 = .ok (.aload_n 0, 1) := by decide +kernel
theorem dX12_boundsOf_23 : decode cX12_boundsOf 23 = .ok (.getfield 375, 3) := by decide +kernel
theorem dX12_boundsOf_26 : decode cX12_boundsOf 26 = .ok (.iload_n 1, 1) := by decide +kernel
theorem dX12_boundsOf_27 : decode cX12_boundsOf 27 = .ok (.iaload, 1) := by decide +kernel
theorem dX12_boundsOf_28 : decode cX12_boundsOf 28 = .ok (.tableswitch 594 1 22 #[104, 104, 115, 126, 159, 184, 205, 241, 277, 341, 341, 397, 184, 184, 159, 159, 415, 453, 508, 538, 573, 573], 104) := by decide +kernel
theorem dX12_boundsOf_132 : decode cX12_boundsOf 132 = .ok (.aload_n 0, 1) := by decide +kernel
theorem dX12_boundsOf_133 : decode cX12_boundsOf 133 = .ok (.lconst 1, 1) := by decide +kernel
theorem dX12_boundsOf_134 : decode cX12_boundsOf 134 = .ok (.lconst 1, 1) := by decide +kernel
theorem dX12_boundsOf_135 : decode cX12_boundsOf 135 = .ok (.lconst 1, 1) := by decide +kernel
theorem dX12_boundsOf_136 : decode cX12_boundsOf 136 = .ok (.lconst 1, 1) := by decide +kernel
theorem dX12_boundsOf_137 : decode cX12_boundsOf 137 = .ok (.invokevirtual 419, 3) := by decide +kernel
theorem dX12_boundsOf_140 : decode cX12_boundsOf 140 = .ok (.goto 487, 3) := by decide +kernel
theorem dX12_boundsOf_143 : decode cX12_boundsOf 143 = .ok (.aload_n 0, 1) := by decide +kernel
theorem dX12_boundsOf_144 : decode cX12_boundsOf 144 = .ok (.lconst 1, 1) := by decide +kernel
theorem dX12_boundsOf_145 : decode cX12_boundsOf 145 = .ok (.lconst 0, 1) := by decide +kernel
theorem dX12_boundsOf_146 : decode cX12_boundsOf 146 = .ok (.lconst 1, 1) := by decide +kernel
theorem dX12_boundsOf_147 : decode cX12_boundsOf 147 = .ok (.lconst 1, 1) := by decide +kernel
theorem dX12_boundsOf_148 : decode cX12_boundsOf 148 = .ok (.invokevirtual 419, 3) := by decide +kernel
theorem dX12_boundsOf_151 : decode cX12_boundsOf 151 = .ok (.goto 476, 3) := by decide +kernel
theorem dX12_boundsOf_154 : decode cX12_boundsOf 154 = .ok (.aload_n 0, 1) := by decide +kernel
theorem dX12_boundsOf_155 : decode cX12_boundsOf 155 = .ok (.aload_n 0, 1) := by decide +kernel
theorem dX12_boundsOf_156 : decode cX12_boundsOf 156 = .ok (.getfield 318, 3) := by decide +kernel
theorem dX12_boundsOf_159 : decode cX12_boundsOf 159 = .ok (.aload_n 0, 1) := by decide +kernel
theorem dX12_boundsOf_160 : decode cX12_boundsOf 160 = .ok (.iload_n 1, 1) := by decide +kernel
theorem dX12_boundsOf_161 : decode cX12_boundsOf 161 = .ok (.invokevirtual 423, 3) := by decide +kernel
theorem dX12_boundsOf_164 : decode cX12_boundsOf 164 = .ok (.invokestatic 427, 3) := by decide +kernel
theorem dX12_boundsOf_167 : decode cX12_boundsOf 167 = .ok (.aload_n 0, 1) := by decide +kernel
theorem dX12_boundsOf_168 : decode cX12_boundsOf 168 = .ok (.getfield 321, 3) := by decide +kernel
theorem dX12_boundsOf_171 : decode cX12_boundsOf 171 = .ok (.aload_n 0, 1) := by decide +kernel
theorem dX12_boundsOf_172 : decode cX12_boundsOf 172 = .ok (.getfield 327, 3) := by decide +kernel
theorem dX12_boundsOf_175 : decode cX12_boundsOf 175 = .ok (.aload_n 0, 1) := by decide +kernel
theorem dX12_boundsOf_176 : decode cX12_boundsOf 176 = .ok (.getfield 330, 3) := by decide +kernel
theorem dX12_boundsOf_179 : decode cX12_boundsOf 179 = .ok (.lconst 1, 1) := by decide +kernel
theorem dX12_boundsOf_180 : decode cX12_boundsOf 180 = .ok (.ladd, 1) := by decide +kernel
theorem dX12_boundsOf_181 : decode cX12_boundsOf 181 = .ok (.invokevirtual 419, 3) := by decide +kernel
theorem dX12_boundsOf_184 : decode cX12_boundsOf 184 = .ok (.goto 443, 3) := by decide +kernel
theorem dX12_boundsOf_187 : decode cX12_boundsOf 187 = .ok (.aload_n 0, 1) := by decide +kernel
theorem dX12_boundsOf_188 : decode cX12_boundsOf 188 = .ok (.aload_n 0, 1) := by decide +kernel
theorem dX12_boundsOf_189 : decode cX12_boundsOf 189 = .ok (.getfield 318, 3) := by decide +kernel
theorem dX12_boundsOf_192 : decode cX12_boundsOf 192 = .ok (.aload_n 0, 1) := by decide +kernel
theorem dX12_boundsOf_193 : decode cX12_boundsOf 193 = .ok (.getfield 321, 3) := by decide +kernel
theorem dX12_boundsOf_196 : decode cX12_boundsOf 196 = .ok (.aload_n 0, 1) := by decide +kernel
theorem dX12_boundsOf_197 : decode cX12_boundsOf 197 = .ok (.getfield 327, 3) := by decide +kernel
theorem dX12_boundsOf_200 : decode cX12_boundsOf 200 = .ok (.aload_n 0, 1) := by decide +kernel
theorem dX12_boundsOf_201 : decode cX12_boundsOf 201 = .ok (.getfield 330, 3) := by decide +kernel
theorem dX12_boundsOf_204 : decode cX12_boundsOf 204 = .ok (.lconst 1, 1) := by decide +kernel
theorem dX12_boundsOf_205 : decode cX12_boundsOf 205 = .ok (.ladd, 1) := by decide +kernel
theorem dX12_boundsOf_206 : decode cX12_boundsOf 206 = .ok (.invokevirtual 419, 3) := by decide +kernel
theorem dX12_boundsOf_209 : decode cX12_boundsOf 209 = .ok (.goto 418, 3) := by decide +kernel
theorem dX12_boundsOf_212 : decode cX12_boundsOf 212 = .ok (.aload_n 0, 1) := by decide +kernel
theorem dX12_boundsOf_213 : decode cX12_boundsOf 213 = .ok (.aload_n 0, 1) := by decide +kernel
theorem dX12_boundsOf_214 : decode cX12_boundsOf 214 = .ok (.getfield 318, 3) := by decide +kernel
theorem dX12_boundsOf_217 : decode cX12_boundsOf 217 = .ok (.aload_n 0, 1) := by decide +kernel
theorem dX12_boundsOf_218 : decode cX12_boundsOf 218 = .ok (.getfield 324, 3) := by decide +kernel
theorem dX12_boundsOf_221 : decode cX12_boundsOf 221 = .ok (.aload_n 0, 1) := by decide +kernel
theorem dX12_boundsOf_222 : decode cX12_boundsOf 222 = .ok (.getfield 327, 3) := by decide +kernel
theorem dX12_boundsOf_225 : decode cX12_boundsOf 225 = .ok (.lload 4, 2) := by decide +kernel
theorem dX12_boundsOf_227 : decode cX12_boundsOf 227 = .ok (.invokevirtual 419, 3) := by decide +kernel
theorem dX12_boundsOf_230 : decode cX12_boundsOf 230 = .ok (.goto 397, 3) := by decide +kernel
theorem dX12_boundsOf_233 : decode cX12_boundsOf 233 = .ok (.aload_n 0, 1) := by decide +kernel
theorem dX12_boundsOf_234 : decode cX12_boundsOf 234 = .ok (.aload_n 0, 1) := by decide +kernel
theorem dX12_boundsOf_235 : decode cX12_boundsOf 235 = .ok (.getfield 318, 3) := by decide +kernel
theorem dX12_boundsOf_238 : decode cX12_boundsOf 238 = .ok (.iload_n 2, 1) := by decide +kernel
theorem dX12_boundsOf_239 : decode cX12_boundsOf 239 = .ok (.i2l, 1) := by decide +kernel
theorem dX12_boundsOf_240 : decode cX12_boundsOf 240 = .ok (.invokestatic 427, 3) := by decide +kernel
theorem dX12_boundsOf_243 : decode cX12_boundsOf 243 = .ok (.iload_n 2, 1) := by decide +kernel
theorem dX12_boundsOf_244 : decode cX12_boundsOf 244 = .ok (.i2l, 1) := by decide +kernel
theorem dX12_boundsOf_245 : decode cX12_boundsOf 245 = .ok (.aload_n 0, 1) := by decide +kernel
theorem dX12_boundsOf_246 : decode cX12_boundsOf 246 = .ok (.getfield 324, 3) := by decide +kernel
theorem dX12_boundsOf_249 : decode cX12_boundsOf 249 = .ok (.lmul, 1) := by decide +kernel
theorem dX12_boundsOf_250 : decode cX12_boundsOf 250 = .ok (.aload_n 0, 1) := by decide +kernel
theorem dX12_boundsOf_251 : decode cX12_boundsOf 251 = .ok (.getfield 327, 3) := by decide +kernel
theorem dX12_boundsOf_254 : decode cX12_boundsOf 254 = .ok (.iload_n 2, 1) := by decide +kernel
theorem dX12_boundsOf_255 : decode cX12_boundsOf 255 = .ok (.i2l, 1) := by decide +kernel
theorem dX12_boundsOf_256 : decode cX12_boundsOf 256 = .ok (.aload_n 0, 1) := by decide +kernel
theorem dX12_boundsOf_257 : decode cX12_boundsOf 257 = .ok (.getfield 333, 3) := by decide +kernel
theorem dX12_boundsOf_260 : decode cX12_boundsOf 260 = .ok (.lmul, 1) := by decide +kernel
theorem dX12_boundsOf_261 : decode cX12_boundsOf 261 = .ok (.lconst 1, 1) := by decide +kernel
theorem dX12_boundsOf_262 : decode cX12_boundsOf 262 = .ok (.ladd, 1) := by decide +kernel
theorem dX12_boundsOf_263 : decode cX12_boundsOf 263 = .ok (.invokevirtual 419, 3) := by decide +kernel
theorem dX12_boundsOf_266 : decode cX12_boundsOf 266 = .ok (.goto 361, 3) := by decide +kernel
theorem dX12_boundsOf_269 : decode cX12_boundsOf 269 = .ok (.aload_n 0, 1) := by decide +kernel
theorem dX12_boundsOf_270 : decode cX12_boundsOf 270 = .ok (.aload_n 0, 1) := by decide +kernel
theorem dX12_boundsOf_271 : decode cX12_boundsOf 271 = .ok (.getfield 318, 3) := by decide +kernel
theorem dX12_boundsOf_274 : decode cX12_boundsOf 274 = .ok (.iload_n 3, 1) := by decide +kernel
theorem dX12_boundsOf_275 : decode cX12_boundsOf 275 = .ok (.i2l, 1) := by decide +kernel
theorem dX12_boundsOf_276 : decode cX12_boundsOf 276 = .ok (.invokestatic 427, 3) := by decide +kernel
theorem dX12_boundsOf_279 : decode cX12_boundsOf 279 = .ok (.iload_n 2, 1) := by decide +kernel
theorem dX12_boundsOf_280 : decode cX12_boundsOf 280 = .ok (.i2l, 1) := by decide +kernel
theorem dX12_boundsOf_281 : decode cX12_boundsOf 281 = .ok (.aload_n 0, 1) := by decide +kernel
theorem dX12_boundsOf_282 : decode cX12_boundsOf 282 = .ok (.getfield 324, 3) := by decide +kernel
theorem dX12_boundsOf_285 : decode cX12_boundsOf 285 = .ok (.lmul, 1) := by decide +kernel
theorem dX12_boundsOf_286 : decode cX12_boundsOf 286 = .ok (.aload_n 0, 1) := by decide +kernel
theorem dX12_boundsOf_287 : decode cX12_boundsOf 287 = .ok (.getfield 327, 3) := by decide +kernel
theorem dX12_boundsOf_290 : decode cX12_boundsOf 290 = .ok (.iload_n 2, 1) := by decide +kernel
theorem dX12_boundsOf_291 : decode cX12_boundsOf 291 = .ok (.i2l, 1) := by decide +kernel
theorem dX12_boundsOf_292 : decode cX12_boundsOf 292 = .ok (.aload_n 0, 1) := by decide +kernel
theorem dX12_boundsOf_293 : decode cX12_boundsOf 293 = .ok (.getfield 333, 3) := by decide +kernel
theorem dX12_boundsOf_296 : decode cX12_boundsOf 296 = .ok (.lmul, 1) := by decide +kernel
theorem dX12_boundsOf_297 : decode cX12_boundsOf 297 = .ok (.lconst 1, 1) := by decide +kernel
theorem dX12_boundsOf_298 : decode cX12_boundsOf 298 = .ok (.ladd, 1) := by decide +kernel
theorem dX12_boundsOf_299 : decode cX12_boundsOf 299 = .ok (.invokevirtual 419, 3) := by decide +kernel
theorem dX12_boundsOf_302 : decode cX12_boundsOf 302 = .ok (.goto 325, 3) := by decide +kernel
theorem dX12_boundsOf_305 : decode cX12_boundsOf 305 = .ok (.iload_n 2, 1) := by decide +kernel
theorem dX12_boundsOf_306 : decode cX12_boundsOf 306 = .ok (.i2l, 1) := by decide +kernel
theorem dX12_boundsOf_307 : decode cX12_boundsOf 307 = .ok (.iload_n 3, 1) := by decide +kernel
theorem dX12_boundsOf_308 : decode cX12_boundsOf 308 = .ok (.i2l, 1) := by decide +kernel
theorem dX12_boundsOf_309 : decode cX12_boundsOf 309 = .ok (.invokestatic 430, 3) := by decide +kernel
theorem dX12_boundsOf_312 : decode cX12_boundsOf 312 = .ok (.iload_n 3, 1) := by decide +kernel
theorem dX12_boundsOf_313 : decode cX12_boundsOf 313 = .ok (.iconst 1, 1) := by decide +kernel
theorem dX12_boundsOf_314 : decode cX12_boundsOf 314 = .ok (.if_icmp .ne 7, 3) := by decide +kernel
theorem dX12_boundsOf_317 : decode cX12_boundsOf 317 = .ok (.lconst 0, 1) := by decide +kernel
theorem dX12_boundsOf_318 : decode cX12_boundsOf 318 = .ok (.goto 4, 3) := by decide +kernel
theorem dX12_boundsOf_321 : decode cX12_boundsOf 321 = .ok (.lconst 1, 1) := by decide +kernel
theorem dX12_boundsOf_322 : decode cX12_boundsOf 322 = .ok (.ladd, 1) := by decide +kernel
theorem dX12_boundsOf_323 : decode cX12_boundsOf 323 = .ok (.lstore 6, 2) := by decide +kernel
theorem dX12_boundsOf_325 : decode cX12_boundsOf 325 = .ok (.aload_n 0, 1) := by decide +kernel
theorem dX12_boundsOf_326 : decode cX12_boundsOf 326 = .ok (.aload_n 0, 1) := by decide +kernel
theorem dX12_boundsOf_327 : decode cX12_boundsOf 327 = .ok (.getfield 318, 3) := by decide +kernel
theorem dX12_boundsOf_330 : decode cX12_boundsOf 330 = .ok (.iload_n 2, 1) := by decide +kernel
theorem dX12_boundsOf_331 : decode cX12_boundsOf 331 = .ok (.i2l, 1) := by decide +kernel
theorem dX12_boundsOf_332 : decode cX12_boundsOf 332 = .ok (.invokestatic 427, 3) := by decide +kernel
theorem dX12_boundsOf_335 : decode cX12_boundsOf 335 = .ok (.lload 6, 2) := by decide +kernel
theorem dX12_boundsOf_337 : decode cX12_boundsOf 337 = .ok (.aload_n 0, 1) := by decide +kernel
theorem dX12_boundsOf_338 : decode cX12_boundsOf 338 = .ok (.getfield 324, 3) := by decide +kernel
theorem dX12_boundsOf_341 : decode cX12_boundsOf 341 = .ok (.lmul, 1) := by decide +kernel
theorem dX12_boundsOf_342 : decode cX12_boundsOf 342 = .ok (.aload_n 0, 1) := by decide +kernel
theorem dX12_boundsOf_343 : decode cX12_boundsOf 343 = .ok (.getfield 327, 3) := by decide +kernel
theorem dX12_boundsOf_346 : decode cX12_boundsOf 346 = .ok (.iload_n 3, 1) := by decide +kernel
theorem dX12_boundsOf_347 : decode cX12_boundsOf 347 = .ok (.i2l, 1) := by decide +kernel
theorem dX12_boundsOf_348 : decode cX12_boundsOf 348 = .ok (.lmul, 1) := by decide +kernel
theorem dX12_boundsOf_349 : decode cX12_boundsOf 349 = .ok (.iload_n 2, 1) := by decide +kernel
theorem dX12_boundsOf_350 : decode cX12_boundsOf 350 = .ok (.i2l, 1) := by decide +kernel
theorem dX12_boundsOf_351 : decode cX12_boundsOf 351 = .ok (.invokestatic 430, 3) := by decide +kernel
theorem dX12_boundsOf_354 : decode cX12_boundsOf 354 = .ok (.lload 6, 2) := by decide +kernel
theorem dX12_boundsOf_356 : decode cX12_boundsOf 356 = .ok (.aload_n 0, 1) := by decide +kernel
theorem dX12_boundsOf_357 : decode cX12_boundsOf 357 = .ok (.getfield 333, 3) := by decide +kernel
theorem dX12_boundsOf_360 : decode cX12_boundsOf 360 = .ok (.lmul, 1) := by decide +kernel
theorem dX12_boundsOf_361 : decode cX12_boundsOf 361 = .ok (.lconst 1, 1) := by decide +kernel
theorem dX12_boundsOf_362 : decode cX12_boundsOf 362 = .ok (.ladd, 1) := by decide +kernel
theorem dX12_boundsOf_363 : decode cX12_boundsOf 363 = .ok (.invokevirtual 419, 3) := by decide +kernel
theorem dX12_boundsOf_366 : decode cX12_boundsOf 366 = .ok (.goto 261, 3) := by decide +kernel
theorem dX12_boundsOf_369 : decode cX12_boundsOf 369 = .ok (.aload_n 0, 1) := by decide +kernel
theorem dX12_boundsOf_370 : decode cX12_boundsOf 370 = .ok (.aload_n 0, 1) := by decide +kernel
theorem dX12_boundsOf_371 : decode cX12_boundsOf 371 = .ok (.getfield 318, 3) := by decide +kernel
theorem dX12_boundsOf_374 : decode cX12_boundsOf 374 = .ok (.iload_n 3, 1) := by decide +kernel
theorem dX12_boundsOf_375 : decode cX12_boundsOf 375 = .ok (.i2l, 1) := by decide +kernel
theorem dX12_boundsOf_376 : decode cX12_boundsOf 376 = .ok (.invokestatic 354, 3) := by decide +kernel
theorem dX12_boundsOf_379 : decode cX12_boundsOf 379 = .ok (.iload_n 3, 1) := by decide +kernel
theorem dX12_boundsOf_380 : decode cX12_boundsOf 380 = .ok (.iconst 1, 1) := by decide +kernel
theorem dX12_boundsOf_381 : decode cX12_boundsOf 381 = .ok (.if_icmp .ne 7, 3) := by decide +kernel
theorem dX12_boundsOf_384 : decode cX12_boundsOf 384 = .ok (.lconst 1, 1) := by decide +kernel
theorem dX12_boundsOf_385 : decode cX12_boundsOf 385 = .ok (.goto 6, 3) := by decide +kernel
theorem dX12_boundsOf_388 : decode cX12_boundsOf 388 = .ok (.ldc2_w 433, 3) := by decide +kernel
theorem dX12_boundsOf_391 : decode cX12_boundsOf 391 = .ok (.aload_n 0, 1) := by decide +kernel
theorem dX12_boundsOf_392 : decode cX12_boundsOf 392 = .ok (.getfield 324, 3) := by decide +kernel
theorem dX12_boundsOf_395 : decode cX12_boundsOf 395 = .ok (.lmul, 1) := by decide +kernel
theorem dX12_boundsOf_396 : decode cX12_boundsOf 396 = .ok (.aload_n 0, 1) := by decide +kernel
theorem dX12_boundsOf_397 : decode cX12_boundsOf 397 = .ok (.getfield 327, 3) := by decide +kernel
theorem dX12_boundsOf_400 : decode cX12_boundsOf 400 = .ok (.iload_n 3, 1) := by decide +kernel
theorem dX12_boundsOf_401 : decode cX12_boundsOf 401 = .ok (.iconst 1, 1) := by decide +kernel
theorem dX12_boundsOf_402 : decode cX12_boundsOf 402 = .ok (.if_icmp .ne 7, 3) := by decide +kernel
theorem dX12_boundsOf_405 : decode cX12_boundsOf 405 = .ok (.lconst 1, 1) := by decide +kernel
theorem dX12_boundsOf_406 : decode cX12_boundsOf 406 = .ok (.goto 6, 3) := by decide +kernel
theorem dX12_boundsOf_409 : decode cX12_boundsOf 409 = .ok (.ldc2_w 433, 3) := by decide +kernel
theorem dX12_boundsOf_412 : decode cX12_boundsOf 412 = .ok (.aload_n 0, 1) := by decide +kernel
theorem dX12_boundsOf_413 : decode cX12_boundsOf 413 = .ok (.getfield 333, 3) := by decide +kernel
theorem dX12_boundsOf_416 : decode cX12_boundsOf 416 = .ok (.lmul, 1) := by decide +kernel
theorem dX12_boundsOf_417 : decode cX12_boundsOf 417 = .ok (.lconst 1, 1) := by decide +kernel
theorem dX12_boundsOf_418 : decode cX12_boundsOf 418 = .ok (.ladd, 1) := by decide +kernel
theorem dX12_boundsOf_419 : decode cX12_boundsOf 419 = .ok (.invokevirtual 419, 3) := by decide +kernel
theorem dX12_boundsOf_422 : decode cX12_boundsOf 422 = .ok (.goto 205, 3) := by decide +kernel
theorem dX12_boundsOf_425 : decode cX12_boundsOf 425 = .ok (.aload_n 0, 1) := by decide +kernel
theorem dX12_boundsOf_426 : decode cX12_boundsOf 426 = .ok (.aload_n 0, 1) := by decide +kernel
theorem dX12_boundsOf_427 : decode cX12_boundsOf 427 = .ok (.getfield 318, 3) := by decide +kernel
theorem dX12_boundsOf_430 : decode cX12_boundsOf 430 = .ok (.aload_n 0, 1) := by decide +kernel
theorem dX12_boundsOf_431 : decode cX12_boundsOf 431 = .ok (.getfield 324, 3) := by decide +kernel
theorem dX12_boundsOf_434 : decode cX12_boundsOf 434 = .ok (.lconst 1, 1) := by decide +kernel
theorem dX12_boundsOf_435 : decode cX12_boundsOf 435 = .ok (.lload 4, 2) := by decide +kernel
theorem dX12_boundsOf_437 : decode cX12_boundsOf 437 = .ok (.invokevirtual 419, 3) := by decide +kernel
theorem dX12_boundsOf_440 : decode cX12_boundsOf 440 = .ok (.goto 187, 3) := by decide +kernel
theorem dX12_boundsOf_443 : decode cX12_boundsOf 443 = .ok (.aload_n 0, 1) := by decide +kernel
theorem dX12_boundsOf_444 : decode cX12_boundsOf 444 = .ok (.aload_n 0, 1) := by decide +kernel
theorem dX12_boundsOf_445 : decode cX12_boundsOf 445 = .ok (.getfield 318, 3) := by decide +kernel
theorem dX12_boundsOf_448 : decode cX12_boundsOf 448 = .ok (.iload_n 2, 1) := by decide +kernel
theorem dX12_boundsOf_449 : decode cX12_boundsOf 449 = .ok (.i2l, 1) := by decide +kernel
theorem dX12_boundsOf_450 : decode cX12_boundsOf 450 = .ok (.invokestatic 354, 3) := by decide +kernel
theorem dX12_boundsOf_453 : decode cX12_boundsOf 453 = .ok (.ldc2_w 433, 3) := by decide +kernel
theorem dX12_boundsOf_456 : decode cX12_boundsOf 456 = .ok (.aload_n 0, 1) := by decide +kernel
theorem dX12_boundsOf_457 : decode cX12_boundsOf 457 = .ok (.getfield 324, 3) := by decide +kernel
theorem dX12_boundsOf_460 : decode cX12_boundsOf 460 = .ok (.lmul, 1) := by decide +kernel
theorem dX12_boundsOf_461 : decode cX12_boundsOf 461 = .ok (.aload_n 0, 1) := by decide +kernel
theorem dX12_boundsOf_462 : decode cX12_boundsOf 462 = .ok (.getfield 327, 3) := by decide +kernel
theorem dX12_boundsOf_465 : decode cX12_boundsOf 465 = .ok (.ldc2_w 433, 3) := by decide +kernel
theorem dX12_boundsOf_468 : decode cX12_boundsOf 468 = .ok (.aload_n 0, 1) := by decide +kernel
theorem dX12_boundsOf_469 : decode cX12_boundsOf 469 = .ok (.getfield 333, 3) := by decide +kernel
theorem dX12_boundsOf_472 : decode cX12_boundsOf 472 = .ok (.lmul, 1) := by decide +kernel
theorem dX12_boundsOf_473 : decode cX12_boundsOf 473 = .ok (.lconst 1, 1) := by decide +kernel
theorem dX12_boundsOf_474 : decode cX12_boundsOf 474 = .ok (.ladd, 1) := by decide +kernel
theorem dX12_boundsOf_475 : decode cX12_boundsOf 475 = .ok (.invokevirtual 419, 3) := by decide +kernel
theorem dX12_boundsOf_478 : decode cX12_boundsOf 478 = .ok (.goto 149, 3) := by decide +kernel
theorem dX12_boundsOf_481 : decode cX12_boundsOf 481 = .ok (.aload_n 0, 1) := by decide +kernel
theorem dX12_boundsOf_482 : decode cX12_boundsOf 482 = .ok (.aload_n 0, 1) := by decide +kernel
theorem dX12_boundsOf_483 : decode cX12_boundsOf 483 = .ok (.getfield 318, 3) := by decide +kernel
theorem dX12_boundsOf_486 : decode cX12_boundsOf 486 = .ok (.iload_n 2, 1) := by decide +kernel
theorem dX12_boundsOf_487 : decode cX12_boundsOf 487 = .ok (.i2l, 1) := by decide +kernel
theorem dX12_boundsOf_488 : decode cX12_boundsOf 488 = .ok (.invokestatic 427, 3) := by decide +kernel
theorem dX12_boundsOf_491 : decode cX12_boundsOf 491 = .ok (.iload_n 2, 1) := by decide +kernel
theorem dX12_boundsOf_492 : decode cX12_boundsOf 492 = .ok (.i2l, 1) := by decide +kernel
theorem dX12_boundsOf_493 : decode cX12_boundsOf 493 = .ok (.aload_n 0, 1) := by decide +kernel
theorem dX12_boundsOf_494 : decode cX12_boundsOf 494 = .ok (.getfield 324, 3) := by decide +kernel
theorem dX12_boundsOf_497 : decode cX12_boundsOf 497 = .ok (.lmul, 1) := by decide +kernel
theorem dX12_boundsOf_498 : decode cX12_boundsOf 498 = .ok (.aload_n 0, 1) := by decide +kernel
theorem dX12_boundsOf_499 : decode cX12_boundsOf 499 = .ok (.getfield 327, 3) := by decide +kernel
theorem dX12_boundsOf_502 : decode cX12_boundsOf 502 = .ok (.lconst 1, 1) := by decide +kernel
theorem dX12_boundsOf_503 : decode cX12_boundsOf 503 = .ok (.ladd, 1) := by decide +kernel
theorem dX12_boundsOf_504 : decode cX12_boundsOf 504 = .ok (.lmul, 1) := by decide +kernel
theorem dX12_boundsOf_505 : decode cX12_boundsOf 505 = .ok (.aload_n 0, 1) := by decide +kernel
theorem dX12_boundsOf_506 : decode cX12_boundsOf 506 = .ok (.getfield 327, 3) := by decide +kernel
theorem dX12_boundsOf_509 : decode cX12_boundsOf 509 = .ok (.aload_n 0, 1) := by decide +kernel
theorem dX12_boundsOf_510 : decode cX12_boundsOf 510 = .ok (.getfield 327, 3) := by decide +kernel
theorem dX12_boundsOf_513 : decode cX12_boundsOf 513 = .ok (.lconst 1, 1) := by decide +kernel
theorem dX12_boundsOf_514 : decode cX12_boundsOf 514 = .ok (.ladd, 1) := by decide +kernel
theorem dX12_boundsOf_515 : decode cX12_boundsOf 515 = .ok (.aload_n 0, 1) := by decide +kernel
theorem dX12_boundsOf_516 : decode cX12_boundsOf 516 = .ok (.getfield 333, 3) := by decide +kernel
theorem dX12_boundsOf_519 : decode cX12_boundsOf 519 = .ok (.iload_n 2, 1) := by decide +kernel
theorem dX12_boundsOf_520 : decode cX12_boundsOf 520 = .ok (.i2l, 1) := by decide +kernel
theorem dX12_boundsOf_521 : decode cX12_boundsOf 521 = .ok (.aload_n 0, 1) := by decide +kernel
theorem dX12_boundsOf_522 : decode cX12_boundsOf 522 = .ok (.getfield 324, 3) := by decide +kernel
theorem dX12_boundsOf_525 : decode cX12_boundsOf 525 = .ok (.lmul, 1) := by decide +kernel
theorem dX12_boundsOf_526 : decode cX12_boundsOf 526 = .ok (.ladd, 1) := by decide +kernel
theorem dX12_boundsOf_527 : decode cX12_boundsOf 527 = .ok (.lmul, 1) := by decide +kernel
theorem dX12_boundsOf_528 : decode cX12_boundsOf 528 = .ok (.lconst 1, 1) := by decide +kernel
theorem dX12_boundsOf_529 : decode cX12_boundsOf 529 = .ok (.ladd, 1) := by decide +kernel
theorem dX12_boundsOf_530 : decode cX12_boundsOf 530 = .ok (.invokevirtual 419, 3) := by decide +kernel
theorem dX12_boundsOf_533 : decode cX12_boundsOf 533 = .ok (.goto 94, 3) := by decide +kernel
theorem dX12_boundsOf_536 : decode cX12_boundsOf 536 = .ok (.aload_n 0, 1) := by decide +kernel
theorem dX12_boundsOf_537 : decode cX12_boundsOf 537 = .ok (.aload_n 0, 1) := by decide +kernel
theorem dX12_boundsOf_538 : decode cX12_boundsOf 538 = .ok (.getfield 318, 3) := by decide +kernel
theorem dX12_boundsOf_541 : decode cX12_boundsOf 541 = .ok (.aload_n 0, 1) := by decide +kernel
theorem dX12_boundsOf_542 : decode cX12_boundsOf 542 = .ok (.getfield 324, 3) := by decide +kernel
theorem dX12_boundsOf_545 : decode cX12_boundsOf 545 = .ok (.aload_n 0, 1) := by decide +kernel
theorem dX12_boundsOf_546 : decode cX12_boundsOf 546 = .ok (.getfield 327, 3) := by decide +kernel
theorem dX12_boundsOf_549 : decode cX12_boundsOf 549 = .ok (.aload_n 0, 1) := by decide +kernel
theorem dX12_boundsOf_550 : decode cX12_boundsOf 550 = .ok (.getfield 333, 3) := by decide +kernel
theorem dX12_boundsOf_553 : decode cX12_boundsOf 553 = .ok (.aload_n 0, 1) := by decide +kernel
theorem dX12_boundsOf_554 : decode cX12_boundsOf 554 = .ok (.getfield 324, 3) := by decide +kernel
theorem dX12_boundsOf_557 : decode cX12_boundsOf 557 = .ok (.ladd, 1) := by decide +kernel
theorem dX12_boundsOf_558 : decode cX12_boundsOf 558 = .ok (.lconst 1, 1) := by decide +kernel
theorem dX12_boundsOf_559 : decode cX12_boundsOf 559 = .ok (.ladd, 1) := by decide +kernel
theorem dX12_boundsOf_560 : decode cX12_boundsOf 560 = .ok (.invokevirtual 419, 3) := by decide +kernel
theorem dX12_boundsOf_563 : decode cX12_boundsOf 563 = .ok (.goto 64, 3) := by decide +kernel
theorem dX12_boundsOf_566 : decode cX12_boundsOf 566 = .ok (.aload_n 0, 1) := by decide +kernel
theorem dX12_boundsOf_567 : decode cX12_boundsOf 567 = .ok (.iload_n 3, 1) := by decide +kernel
theorem dX12_boundsOf_568 : decode cX12_boundsOf 568 = .ok (.i2l, 1) := by decide +kernel
theorem dX12_boundsOf_569 : decode cX12_boundsOf 569 = .ok (.aload_n 0, 1) := by decide +kernel
theorem dX12_boundsOf_570 : decode cX12_boundsOf 570 = .ok (.getfield 318, 3) := by decide +kernel
theorem dX12_boundsOf_573 : decode cX12_boundsOf 573 = .ok (.aload_n 0, 1) := by decide +kernel
theorem dX12_boundsOf_574 : decode cX12_boundsOf 574 = .ok (.iload_n 1, 1) := by decide +kernel
theorem dX12_boundsOf_575 : decode cX12_boundsOf 575 = .ok (.invokevirtual 435, 3) := by decide +kernel
theorem dX12_boundsOf_578 : decode cX12_boundsOf 578 = .ok (.i2l, 1) := by decide +kernel
theorem dX12_boundsOf_579 : decode cX12_boundsOf 579 = .ok (.invokestatic 427, 3) := by decide +kernel
theorem dX12_boundsOf_582 : decode cX12_boundsOf 582 = .ok (.invokestatic 354, 3) := by decide +kernel
theorem dX12_boundsOf_585 : decode cX12_boundsOf 585 = .ok (.aload_n 0, 1) := by decide +kernel
theorem dX12_boundsOf_586 : decode cX12_boundsOf 586 = .ok (.getfield 324, 3) := by decide +kernel
theorem dX12_boundsOf_589 : decode cX12_boundsOf 589 = .ok (.aload_n 0, 1) := by decide +kernel
theorem dX12_boundsOf_590 : decode cX12_boundsOf 590 = .ok (.getfield 327, 3) := by decide +kernel
theorem dX12_boundsOf_593 : decode cX12_boundsOf 593 = .ok (.lload 4, 2) := by decide +kernel
theorem dX12_boundsOf_595 : decode cX12_boundsOf 595 = .ok (.invokevirtual 419, 3) := by decide +kernel
theorem dX12_boundsOf_598 : decode cX12_boundsOf 598 = .ok (.goto 29, 3) := by decide +kernel
theorem dX12_boundsOf_601 : decode cX12_boundsOf 601 = .ok (.aload_n 0, 1) := by decide +kernel
theorem dX12_boundsOf_602 : decode cX12_boundsOf 602 = .ok (.aload_n 0, 1) := by decide +kernel
theorem dX12_boundsOf_603 : decode cX12_boundsOf 603 = .ok (.getfield 318, 3) := by decide +kernel
theorem dX12_boundsOf_606 : decode cX12_boundsOf 606 = .ok (.aload_n 0, 1) := by decide +kernel
theorem dX12_boundsOf_607 : decode cX12_boundsOf 607 = .ok (.getfield 324, 3) := by decide +kernel
theorem dX12_boundsOf_610 : decode cX12_boundsOf 610 = .ok (.aload_n 0, 1) := by decide +kernel
theorem dX12_boundsOf_611 : decode cX12_boundsOf 611 = .ok (.getfield 327, 3) := by decide +kernel
theorem dX12_boundsOf_614 : decode cX12_boundsOf 614 = .ok (.lload 4, 2) := by decide +kernel
theorem dX12_boundsOf_616 : decode cX12_boundsOf 616 = .ok (.invokevirtual 419, 3) := by decide +kernel
theorem dX12_boundsOf_619 : decode cX12_boundsOf 619 = .ok (.goto 8, 3) := by decide +kernel
theorem dX12_boundsOf_622 : decode cX12_boundsOf 622 = .ok (.aload_n 0, 1) := by decide +kernel
theorem dX12_boundsOf_623 : decode cX12_boundsOf 623 = .ok (.iload_n 1, 1) := by decide +kernel
theorem dX12_boundsOf_624 : decode cX12_boundsOf 624 = .ok (.invokevirtual 438, 3) := by decide +kernel
theorem dX12_boundsOf_627 : decode cX12_boundsOf 627 = .ok (.return_, 1) := by decide +kernel
theorem dX12_ofTwo_0 : decode cX12_ofTwo 0 = .ok (.aload_n 0, 1) := by decide +kernel
theorem dX12_ofTwo_1 : decode cX12_ofTwo 1 = .ok (.getfield 345, 3) := by decide +kernel
theorem dX12_ofTwo_4 : decode cX12_ofTwo 4 = .ok (.aload_n 0, 1) := by decide +kernel
theorem dX12_ofTwo_5 : decode cX12_ofTwo 5 = .ok (.getfield 339, 3) := by decide +kernel
theorem dX12_ofTwo_8 : decode cX12_ofTwo 8 = .ok (.iload_n 1, 1) := by decide +kernel
theorem dX12_ofTwo_9 : decode cX12_ofTwo 9 = .ok (.iaload, 1) := by decide +kernel
theorem dX12_ofTwo_10 : decode cX12_ofTwo 10 = .ok (.iaload, 1) := by decide +kernel
theorem dX12_ofTwo_11 : decode cX12_ofTwo 11 = .ok (.istore_n 2, 1) := by decide +kernel
theorem dX12_ofTwo_12 : decode cX12_ofTwo 12 = .ok (.aload_n 0, 1) := by decide +kernel
theorem dX12_ofTwo_13 : decode cX12_ofTwo 13 = .ok (.getfield 345, 3) := by decide +kernel
theorem dX12_ofTwo_16 : decode cX12_ofTwo 16 = .ok (.aload_n 0, 1) := by decide +kernel
theorem dX12_ofTwo_17 : decode cX12_ofTwo 17 = .ok (.getfield 339, 3) := by decide +kernel
theorem dX12_ofTwo_20 : decode cX12_ofTwo 20 = .ok (.iload_n 1, 1) := by decide +kernel
theorem dX12_ofTwo_21 : decode cX12_ofTwo 21 = .ok (.iaload, 1) := by decide +kernel
theorem dX12_ofTwo_22 : decode cX12_ofTwo 22 = .ok (.iconst 1, 1) := by decide +kernel
theorem dX12_ofTwo_23 : decode cX12_ofTwo 23 = .ok (.iadd, 1) := by decide +kernel
theorem dX12_ofTwo_24 : decode cX12_ofTwo 24 = .ok (.iaload, 1) := by decide +kernel
theorem dX12_ofTwo_25 : decode cX12_ofTwo 25 = .ok (.istore_n 3, 1) := by decide +kernel
theorem dX12_ofTwo_26 : decode cX12_ofTwo 26 = .ok (.aload_n 0, 1) := by decide +kernel
theorem dX12_ofTwo_27 : decode cX12_ofTwo 27 = .ok (.getfield 375, 3) := by decide +kernel
theorem dX12_ofTwo_30 : decode cX12_ofTwo 30 = .ok (.iload_n 1, 1) := by decide +kernel
theorem dX12_ofTwo_31 : decode cX12_ofTwo 31 = .ok (.iaload, 1) := by decide +kernel
theorem dX12_ofTwo_32 : decode cX12_ofTwo 32 = .ok (.bipush 24, 2) := by decide +kernel
theorem dX12_ofTwo_34 : decode cX12_ofTwo 34 = .ok (.if_icmp .ne 7, 3) := by decide +kernel
theorem dX12_ofTwo_37 : decode cX12_ofTwo 37 = .ok (.iload_n 3, 1) := by decide +kernel
theorem dX12_ofTwo_38 : decode cX12_ofTwo 38 = .ok (.goto 4, 3) := by decide +kernel
theorem dX12_ofTwo_41 : decode cX12_ofTwo 41 = .ok (.iload_n 2, 1) := by decide +kernel
theorem dX12_ofTwo_42 : decode cX12_ofTwo 42 = .ok (.istore 4, 2) := by decide +kernel
theorem dX12_ofTwo_44 : decode cX12_ofTwo 44 = .ok (.aload_n 0, 1) := by decide +kernel
theorem dX12_ofTwo_45 : decode cX12_ofTwo 45 = .ok (.getfield 375, 3) := by decide +kernel
theorem dX12_ofTwo_48 : decode cX12_ofTwo 48 = .ok (.iload_n 1, 1) := by decide +kernel
theorem dX12_ofTwo_49 : decode cX12_ofTwo 49 = .ok (.iaload, 1) := by decide +kernel
theorem dX12_ofTwo_50 : decode cX12_ofTwo 50 = .ok (.bipush 24, 2) := by decide +kernel
theorem dX12_ofTwo_52 : decode cX12_ofTwo 52 = .ok (.if_icmp .ne 7, 3) := by decide +kernel
theorem dX12_ofTwo_55 : decode cX12_ofTwo 55 = .ok (.iload_n 2, 1) := by decide +kernel
theorem dX12_ofTwo_56 : decode cX12_ofTwo 56 = .ok (.goto 4, 3) := by decide +kernel
theorem dX12_ofTwo_59 : decode cX12_ofTwo 59 = .ok (.iload_n 3, 1) := by decide +kernel
theorem dX12_ofTwo_60 : decode cX12_ofTwo 60 = .ok (.istore 5, 2) := by decide +kernel
theorem dX12_ofTwo_62 : decode cX12_ofTwo 62 = .ok (.aload_n 0, 1) := by decide +kernel
theorem dX12_ofTwo_63 : decode cX12_ofTwo 63 = .ok (.aload_n 0, 1) := by decide +kernel
theorem dX12_ofTwo_64 : decode cX12_ofTwo 64 = .ok (.getfield 351, 3) := by decide +kernel
theorem dX12_ofTwo_67 : decode cX12_ofTwo 67 = .ok (.iload 4, 2) := by decide +kernel
theorem dX12_ofTwo_69 : decode cX12_ofTwo 69 = .ok (.iaload, 1) := by decide +kernel
theorem dX12_ofTwo_70 : decode cX12_ofTwo 70 = .ok (.i2l, 1) := by decide +kernel
theorem dX12_ofTwo_71 : decode cX12_ofTwo 71 = .ok (.aload_n 0, 1) := by decide +kernel
theorem dX12_ofTwo_72 : decode cX12_ofTwo 72 = .ok (.getfield 357, 3) := by decide +kernel
theorem dX12_ofTwo_75 : decode cX12_ofTwo 75 = .ok (.iload 4, 2) := by decide +kernel
theorem dX12_ofTwo_77 : decode cX12_ofTwo 77 = .ok (.iaload, 1) := by decide +kernel
theorem dX12_ofTwo_78 : decode cX12_ofTwo 78 = .ok (.i2l, 1) := by decide +kernel
theorem dX12_ofTwo_79 : decode cX12_ofTwo 79 = .ok (.aload_n 0, 1) := by decide +kernel
theorem dX12_ofTwo_80 : decode cX12_ofTwo 80 = .ok (.getfield 360, 3) := by decide +kernel
theorem dX12_ofTwo_83 : decode cX12_ofTwo 83 = .ok (.iload 4, 2) := by decide +kernel
theorem dX12_ofTwo_85 : decode cX12_ofTwo 85 = .ok (.iaload, 1) := by decide +kernel
theorem dX12_ofTwo_86 : decode cX12_ofTwo 86 = .ok (.i2l, 1) := by decide +kernel
theorem dX12_ofTwo_87 : decode cX12_ofTwo 87 = .ok (.aload_n 0, 1) := by decide +kernel
theorem dX12_ofTwo_88 : decode cX12_ofTwo 88 = .ok (.getfield 363, 3) := by decide +kernel
theorem dX12_ofTwo_91 : decode cX12_ofTwo 91 = .ok (.iload 4, 2) := by decide +kernel
theorem dX12_ofTwo_93 : decode cX12_ofTwo 93 = .ok (.iaload, 1) := by decide +kernel
theorem dX12_ofTwo_94 : decode cX12_ofTwo 94 = .ok (.i2l, 1) := by decide +kernel
theorem dX12_ofTwo_95 : decode cX12_ofTwo 95 = .ok (.aload_n 0, 1) := by decide +kernel
theorem dX12_ofTwo_96 : decode cX12_ofTwo 96 = .ok (.getfield 357, 3) := by decide +kernel
theorem dX12_ofTwo_99 : decode cX12_ofTwo 99 = .ok (.iload 4, 2) := by decide +kernel
theorem dX12_ofTwo_101 : decode cX12_ofTwo 101 = .ok (.iaload, 1) := by decide +kernel
theorem dX12_ofTwo_102 : decode cX12_ofTwo 102 = .ok (.i2l, 1) := by decide +kernel
theorem dX12_ofTwo_103 : decode cX12_ofTwo 103 = .ok (.aload_n 0, 1) := by decide +kernel
theorem dX12_ofTwo_104 : decode cX12_ofTwo 104 = .ok (.getfield 360, 3) := by decide +kernel
theorem dX12_ofTwo_107 : decode cX12_ofTwo 107 = .ok (.iload 5, 2) := by decide +kernel
theorem dX12_ofTwo_109 : decode cX12_ofTwo 109 = .ok (.iaload, 1) := by decide +kernel
theorem dX12_ofTwo_110 : decode cX12_ofTwo 110 = .ok (.i2l, 1) := by decide +kernel
theorem dX12_ofTwo_111 : decode cX12_ofTwo 111 = .ok (.lconst 1, 1) := by decide +kernel
theorem dX12_ofTwo_112 : decode cX12_ofTwo 112 = .ok (.ladd, 1) := by decide +kernel
theorem dX12_ofTwo_113 : decode cX12_ofTwo 113 = .ok (.lmul, 1) := by decide +kernel
theorem dX12_ofTwo_114 : decode cX12_ofTwo 114 = .ok (.aload_n 0, 1) := by decide +kernel
theorem dX12_ofTwo_115 : decode cX12_ofTwo 115 = .ok (.getfield 363, 3) := by decide +kernel
theorem dX12_ofTwo_118 : decode cX12_ofTwo 118 = .ok (.iload 5, 2) := by decide +kernel
theorem dX12_ofTwo_120 : decode cX12_ofTwo 120 = .ok (.iaload, 1) := by decide +kernel
theorem dX12_ofTwo_121 : decode cX12_ofTwo 121 = .ok (.i2l, 1) := by decide +kernel
theorem dX12_ofTwo_122 : decode cX12_ofTwo 122 = .ok (.lmul, 1) := by decide +kernel
theorem dX12_ofTwo_123 : decode cX12_ofTwo 123 = .ok (.ladd, 1) := by decide +kernel
theorem dX12_ofTwo_124 : decode cX12_ofTwo 124 = .ok (.lconst 1, 1) := by decide +kernel
theorem dX12_ofTwo_125 : decode cX12_ofTwo 125 = .ok (.ladd, 1) := by decide +kernel
theorem dX12_ofTwo_126 : decode cX12_ofTwo 126 = .ok (.invokevirtual 419, 3) := by decide +kernel
theorem dX12_ofTwo_129 : decode cX12_ofTwo 129 = .ok (.return_, 1) := by decide +kernel
theorem dX12_spanBelow_0 : decode cX12_spanBelow 0 = .ok (.aload_n 0, 1) := by decide +kernel
theorem dX12_spanBelow_1 : decode cX12_spanBelow 1 = .ok (.getfield 384, 3) := by decide +kernel
theorem dX12_spanBelow_4 : decode cX12_spanBelow 4 = .ok (.iload_n 1, 1) := by decide +kernel
theorem dX12_spanBelow_5 : decode cX12_spanBelow 5 = .ok (.iaload, 1) := by decide +kernel
theorem dX12_spanBelow_6 : decode cX12_spanBelow 6 = .ok (.aload_n 0, 1) := by decide +kernel
theorem dX12_spanBelow_7 : decode cX12_spanBelow 7 = .ok (.getfield 381, 3) := by decide +kernel
theorem dX12_spanBelow_10 : decode cX12_spanBelow 10 = .ok (.iload_n 1, 1) := by decide +kernel
theorem dX12_spanBelow_11 : decode cX12_spanBelow 11 = .ok (.iaload, 1) := by decide +kernel
theorem dX12_spanBelow_12 : decode cX12_spanBelow 12 = .ok (.imul, 1) := by decide +kernel
theorem dX12_spanBelow_13 : decode cX12_spanBelow 13 = .ok (.aload_n 0, 1) := by decide +kernel
theorem dX12_spanBelow_14 : decode cX12_spanBelow 14 = .ok (.getfield 378, 3) := by decide +kernel
theorem dX12_spanBelow_17 : decode cX12_spanBelow 17 = .ok (.iload_n 1, 1) := by decide +kernel
theorem dX12_spanBelow_18 : decode cX12_spanBelow 18 = .ok (.iaload, 1) := by decide +kernel
theorem dX12_spanBelow_19 : decode cX12_spanBelow 19 = .ok (.aload_n 0, 1) := by decide +kernel
theorem dX12_spanBelow_20 : decode cX12_spanBelow 20 = .ok (.getfield 387, 3) := by decide +kernel
theorem dX12_spanBelow_23 : decode cX12_spanBelow 23 = .ok (.iload_n 1, 1) := by decide +kernel
theorem dX12_spanBelow_24 : decode cX12_spanBelow 24 = .ok (.iaload, 1) := by decide +kernel
theorem dX12_spanBelow_25 : decode cX12_spanBelow 25 = .ok (.imul, 1) := by decide +kernel
theorem dX12_spanBelow_26 : decode cX12_spanBelow 26 = .ok (.isub, 1) := by decide +kernel
theorem dX12_spanBelow_27 : decode cX12_spanBelow 27 = .ok (.istore_n 2, 1) := by decide +kernel
theorem dX12_spanBelow_28 : decode cX12_spanBelow 28 = .ok (.aload_n 0, 1) := by decide +kernel
theorem dX12_spanBelow_29 : decode cX12_spanBelow 29 = .ok (.getfield 381, 3) := by decide +kernel
theorem dX12_spanBelow_32 : decode cX12_spanBelow 32 = .ok (.iload_n 1, 1) := by decide +kernel
theorem dX12_spanBelow_33 : decode cX12_spanBelow 33 = .ok (.iaload, 1) := by decide +kernel
theorem dX12_spanBelow_34 : decode cX12_spanBelow 34 = .ok (.aload_n 0, 1) := by decide +kernel
theorem dX12_spanBelow_35 : decode cX12_spanBelow 35 = .ok (.getfield 387, 3) := by decide +kernel
theorem dX12_spanBelow_38 : decode cX12_spanBelow 38 = .ok (.iload_n 1, 1) := by decide +kernel
theorem dX12_spanBelow_39 : decode cX12_spanBelow 39 = .ok (.iaload, 1) := by decide +kernel
theorem dX12_spanBelow_40 : decode cX12_spanBelow 40 = .ok (.imul, 1) := by decide +kernel
theorem dX12_spanBelow_41 : decode cX12_spanBelow 41 = .ok (.istore_n 3, 1) := by decide +kernel
theorem dX12_spanBelow_42 : decode cX12_spanBelow 42 = .ok (.iload_n 3, 1) := by decide +kernel
theorem dX12_spanBelow_43 : decode cX12_spanBelow 43 = .ok (.iload_n 2, 1) := by decide +kernel
theorem dX12_spanBelow_44 : decode cX12_spanBelow 44 = .ok (.iload_n 3, 1) := by decide +kernel
theorem dX12_spanBelow_45 : decode cX12_spanBelow 45 = .ok (.invokestatic 258, 3) := by decide +kernel
theorem dX12_spanBelow_48 : decode cX12_spanBelow 48 = .ok (.idiv, 1) := by decide +kernel
theorem dX12_spanBelow_49 : decode cX12_spanBelow 49 = .ok (.ireturn, 1) := by decide +kernel
theorem dX12_spanAbove_0 : decode cX12_spanAbove 0 = .ok (.aload_n 0, 1) := by decide +kernel
theorem dX12_spanAbove_1 : decode cX12_spanAbove 1 = .ok (.getfield 384, 3) := by decide +kernel
theorem dX12_spanAbove_4 : decode cX12_spanAbove 4 = .ok (.iload_n 1, 1) := by decide +kernel
theorem dX12_spanAbove_5 : decode cX12_spanAbove 5 = .ok (.iaload, 1) := by decide +kernel
theorem dX12_spanAbove_6 : decode cX12_spanAbove 6 = .ok (.aload_n 0, 1) := by decide +kernel
theorem dX12_spanAbove_7 : decode cX12_spanAbove 7 = .ok (.getfield 381, 3) := by decide +kernel
theorem dX12_spanAbove_10 : decode cX12_spanAbove 10 = .ok (.iload_n 1, 1) := by decide +kernel
theorem dX12_spanAbove_11 : decode cX12_spanAbove 11 = .ok (.iaload, 1) := by decide +kernel
theorem dX12_spanAbove_12 : decode cX12_spanAbove 12 = .ok (.imul, 1) := by decide +kernel
theorem dX12_spanAbove_13 : decode cX12_spanAbove 13 = .ok (.aload_n 0, 1) := by decide +kernel
theorem dX12_spanAbove_14 : decode cX12_spanAbove 14 = .ok (.getfield 378, 3) := by decide +kernel
theorem dX12_spanAbove_17 : decode cX12_spanAbove 17 = .ok (.iload_n 1, 1) := by decide +kernel
theorem dX12_spanAbove_18 : decode cX12_spanAbove 18 = .ok (.iaload, 1) := by decide +kernel
theorem dX12_spanAbove_19 : decode cX12_spanAbove 19 = .ok (.aload_n 0, 1) := by decide +kernel
theorem dX12_spanAbove_20 : decode cX12_spanAbove 20 = .ok (.getfield 387, 3) := by decide +kernel
theorem dX12_spanAbove_23 : decode cX12_spanAbove 23 = .ok (.iload_n 1, 1) := by decide +kernel
theorem dX12_spanAbove_24 : decode cX12_spanAbove 24 = .ok (.iaload, 1) := by decide +kernel
theorem dX12_spanAbove_25 : decode cX12_spanAbove 25 = .ok (.imul, 1) := by decide +kernel
theorem dX12_spanAbove_26 : decode cX12_spanAbove 26 = .ok (.isub, 1) := by decide +kernel
theorem dX12_spanAbove_27 : decode cX12_spanAbove 27 = .ok (.istore_n 2, 1) := by decide +kernel
theorem dX12_spanAbove_28 : decode cX12_spanAbove 28 = .ok (.aload_n 0, 1) := by decide +kernel
theorem dX12_spanAbove_29 : decode cX12_spanAbove 29 = .ok (.getfield 381, 3) := by decide +kernel
theorem dX12_spanAbove_32 : decode cX12_spanAbove 32 = .ok (.iload_n 1, 1) := by decide +kernel
theorem dX12_spanAbove_33 : decode cX12_spanAbove 33 = .ok (.iaload, 1) := by decide +kernel
theorem dX12_spanAbove_34 : decode cX12_spanAbove 34 = .ok (.aload_n 0, 1) := by decide +kernel
theorem dX12_spanAbove_35 : decode cX12_spanAbove 35 = .ok (.getfield 387, 3) := by decide +kernel
theorem dX12_spanAbove_38 : decode cX12_spanAbove 38 = .ok (.iload_n 1, 1) := by decide +kernel
theorem dX12_spanAbove_39 : decode cX12_spanAbove 39 = .ok (.iaload, 1) := by decide +kernel
theorem dX12_spanAbove_40 : decode cX12_spanAbove 40 = .ok (.imul, 1) := by decide +kernel
theorem dX12_spanAbove_41 : decode cX12_spanAbove 41 = .ok (.istore_n 3, 1) := by decide +kernel
theorem dX12_spanAbove_42 : decode cX12_spanAbove 42 = .ok (.iload_n 2, 1) := by decide +kernel
theorem dX12_spanAbove_43 : decode cX12_spanAbove 43 = .ok (.iload_n 2, 1) := by decide +kernel
theorem dX12_spanAbove_44 : decode cX12_spanAbove 44 = .ok (.iload_n 3, 1) := by decide +kernel
theorem dX12_spanAbove_45 : decode cX12_spanAbove 45 = .ok (.invokestatic 258, 3) := by decide +kernel
theorem dX12_spanAbove_48 : decode cX12_spanAbove 48 = .ok (.idiv, 1) := by decide +kernel
theorem dX12_spanAbove_49 : decode cX12_spanAbove 49 = .ok (.ireturn, 1) := by decide +kernel
theorem dX12_one_0 : decode cX12_one 0 = .ok (.aload_n 0, 1) := by decide +kernel
theorem dX12_one_1 : decode cX12_one 1 = .ok (.invokevirtual 441, 3) := by decide +kernel
theorem dX12_one_4 : decode cX12_one 4 = .ok (.istore 7, 2) := by decide +kernel
theorem dX12_one_6 : decode cX12_one 6 = .ok (.aload_n 0, 1) := by decide +kernel
theorem dX12_one_7 : decode cX12_one 7 = .ok (.iload_n 1, 1) := by decide +kernel
theorem dX12_one_8 : decode cX12_one 8 = .ok (.iload_n 2, 1) := by decide +kernel
theorem dX12_one_9 : decode cX12_one 9 = .ok (.iload_n 3, 1) := by decide +kernel
theorem dX12_one_10 : decode cX12_one 10 = .ok (.iload 4, 2) := by decide +kernel
theorem dX12_one_12 : decode cX12_one 12 = .ok (.iload 5, 2) := by decide +kernel
theorem dX12_one_14 : decode cX12_one 14 = .ok (.invokevirtual 444, 3) := by decide +kernel
theorem dX12_one_17 : decode cX12_one 17 = .ok (.aload_n 0, 1) := by decide +kernel
theorem dX12_one_18 : decode cX12_one 18 = .ok (.iload 7, 2) := by decide +kernel
theorem dX12_one_20 : decode cX12_one 20 = .ok (.iconst 1, 1) := by decide +kernel
theorem dX12_one_21 : decode cX12_one 21 = .ok (.iconst 1, 1) := by decide +kernel
theorem dX12_one_22 : decode cX12_one 22 = .ok (.invokevirtual 448, 3) := by decide +kernel
theorem dX12_one_25 : decode cX12_one 25 = .ok (.aload_n 0, 1) := by decide +kernel
theorem dX12_one_26 : decode cX12_one 26 = .ok (.iload 6, 2) := by decide +kernel
theorem dX12_one_28 : decode cX12_one 28 = .ok (.invokevirtual 451, 3) := by decide +kernel
theorem dX12_one_31 : decode cX12_one 31 = .ok (.return_, 1) := by decide +kernel
theorem dX12_two_0 : decode cX12_two 0 = .ok (.aload_n 0, 1) := by decide +kernel
theorem dX12_two_1 : decode cX12_two 1 = .ok (.invokevirtual 441, 3) := by decide +kernel
theorem dX12_two_4 : decode cX12_two 4 = .ok (.istore 7, 2) := by decide +kernel
theorem dX12_two_6 : decode cX12_two 6 = .ok (.aload_n 0, 1) := by decide +kernel
theorem dX12_two_7 : decode cX12_two 7 = .ok (.invokevirtual 441, 3) := by decide +kernel
theorem dX12_two_10 : decode cX12_two 10 = .ok (.istore 8, 2) := by decide +kernel
theorem dX12_two_12 : decode cX12_two 12 = .ok (.aload_n 0, 1) := by decide +kernel
theorem dX12_two_13 : decode cX12_two 13 = .ok (.iload_n 1, 1) := by decide +kernel
theorem dX12_two_14 : decode cX12_two 14 = .ok (.iload_n 2, 1) := by decide +kernel
theorem dX12_two_15 : decode cX12_two 15 = .ok (.iload_n 3, 1) := by decide +kernel
theorem dX12_two_16 : decode cX12_two 16 = .ok (.iload 4, 2) := by decide +kernel
theorem dX12_two_18 : decode cX12_two 18 = .ok (.iload 5, 2) := by decide +kernel
theorem dX12_two_20 : decode cX12_two 20 = .ok (.invokevirtual 444, 3) := by decide +kernel
theorem dX12_two_23 : decode cX12_two 23 = .ok (.aload_n 0, 1) := by decide +kernel
theorem dX12_two_24 : decode cX12_two 24 = .ok (.iload 8, 2) := by decide +kernel
theorem dX12_two_26 : decode cX12_two 26 = .ok (.iconst 1, 1) := by decide +kernel
theorem dX12_two_27 : decode cX12_two 27 = .ok (.iconst 1, 1) := by decide +kernel
theorem dX12_two_28 : decode cX12_two 28 = .ok (.invokevirtual 448, 3) := by decide +kernel
theorem dX12_two_31 : decode cX12_two 31 = .ok (.aload_n 0, 1) := by decide +kernel
theorem dX12_two_32 : decode cX12_two 32 = .ok (.iload 7, 2) := by decide +kernel
theorem dX12_two_34 : decode cX12_two 34 = .ok (.iconst 1, 1) := by decide +kernel
theorem dX12_two_35 : decode cX12_two 35 = .ok (.iconst 1, 1) := by decide +kernel
theorem dX12_two_36 : decode cX12_two 36 = .ok (.invokevirtual 448, 3) := by decide +kernel
theorem dX12_two_39 : decode cX12_two 39 = .ok (.aload_n 0, 1) := by decide +kernel
theorem dX12_two_40 : decode cX12_two 40 = .ok (.iload 6, 2) := by decide +kernel
theorem dX12_two_42 : decode cX12_two 42 = .ok (.invokevirtual 451, 3) := by decide +kernel
theorem dX12_two_45 : decode cX12_two 45 = .ok (.return_, 1) := by decide +kernel
theorem dX12_leaf_0 : decode cX12_leaf 0 = .ok (.aload_n 0, 1) := by decide +kernel
theorem dX12_leaf_1 : decode cX12_leaf 1 = .ok (.iload_n 1, 1) := by decide +kernel
theorem dX12_leaf_2 : decode cX12_leaf 2 = .ok (.iload_n 2, 1) := by decide +kernel
theorem dX12_leaf_3 : decode cX12_leaf 3 = .ok (.iload_n 3, 1) := by decide +kernel
theorem dX12_leaf_4 : decode cX12_leaf 4 = .ok (.iconst 0, 1) := by decide +kernel
theorem dX12_leaf_5 : decode cX12_leaf 5 = .ok (.iconst 0, 1) := by decide +kernel
theorem dX12_leaf_6 : decode cX12_leaf 6 = .ok (.invokevirtual 444, 3) := by decide +kernel
theorem dX12_leaf_9 : decode cX12_leaf 9 = .ok (.aload_n 0, 1) := by decide +kernel
theorem dX12_leaf_10 : decode cX12_leaf 10 = .ok (.iload 4, 2) := by decide +kernel
theorem dX12_leaf_12 : decode cX12_leaf 12 = .ok (.invokevirtual 451, 3) := by decide +kernel
theorem dX12_leaf_15 : decode cX12_leaf 15 = .ok (.return_, 1) := by decide +kernel
theorem dX12_makes_0 : decode cX12_makes 0 = .ok (.aload_n 0, 1) := by decide +kernel
theorem dX12_makes_1 : decode cX12_makes 1 = .ok (.iconst 0, 1) := by decide +kernel
theorem dX12_makes_2 : decode cX12_makes 2 = .ok (.putfield 288, 3) := by decide +kernel
theorem dX12_makes_5 : decode cX12_makes 5 = .ok (.aload_n 0, 1) := by decide +kernel
theorem dX12_makes_6 : decode cX12_makes 6 = .ok (.iconst 0, 1) := by decide +kernel
theorem dX12_makes_7 : decode cX12_makes 7 = .ok (.putfield 297, 3) := by decide +kernel
theorem dX12_makes_10 : decode cX12_makes 10 = .ok (.aload_n 0, 1) := by decide +kernel
theorem dX12_makes_11 : decode cX12_makes 11 = .ok (.iconst 0, 1) := by decide +kernel
theorem dX12_makes_12 : decode cX12_makes 12 = .ok (.putfield 300, 3) := by decide +kernel
theorem dX12_makes_15 : decode cX12_makes 15 = .ok (.aload_n 0, 1) := by decide +kernel
theorem dX12_makes_16 : decode cX12_makes 16 = .ok (.iconst 1, 1) := by decide +kernel
theorem dX12_makes_17 : decode cX12_makes 17 = .ok (.iload_n 1, 1) := by decide +kernel
theorem dX12_makes_18 : decode cX12_makes 18 = .ok (.invokevirtual 454, 3) := by decide +kernel
theorem dX12_makes_21 : decode cX12_makes 21 = .ok (.aload_n 0, 1) := by decide +kernel
theorem dX12_makes_22 : decode cX12_makes 22 = .ok (.getfield 288, 3) := by decide +kernel
theorem dX12_makes_25 : decode cX12_makes 25 = .ok (.ifCond .le 45, 3) := by decide +kernel
theorem dX12_makes_28 : decode cX12_makes 28 = .ok (.aload_n 0, 1) := by decide +kernel
theorem dX12_makes_29 : decode cX12_makes 29 = .ok (.getfield 41, 3) := by decide +kernel
theorem dX12_makes_32 : decode cX12_makes 32 = .ok (.ifCond .ne 38, 3) := by decide +kernel
theorem dX12_makes_35 : decode cX12_makes 35 = .ok (.aload_n 0, 1) := by decide +kernel
theorem dX12_makes_36 : decode cX12_makes 36 = .ok (.dup, 1) := by decide +kernel
theorem dX12_makes_37 : decode cX12_makes 37 = .ok (.getfield 288, 3) := by decide +kernel
theorem dX12_makes_40 : decode cX12_makes 40 = .ok (.iconst 1, 1) := by decide +kernel
theorem dX12_makes_41 : decode cX12_makes 41 = .ok (.isub, 1) := by decide +kernel
theorem dX12_makes_42 : decode cX12_makes 42 = .ok (.putfield 288, 3) := by decide +kernel
theorem dX12_makes_45 : decode cX12_makes 45 = .ok (.aload_n 0, 1) := by decide +kernel
theorem dX12_makes_46 : decode cX12_makes 46 = .ok (.aload_n 0, 1) := by decide +kernel
theorem dX12_makes_47 : decode cX12_makes 47 = .ok (.getfield 285, 3) := by decide +kernel
theorem dX12_makes_50 : decode cX12_makes 50 = .ok (.aload_n 0, 1) := by decide +kernel
theorem dX12_makes_51 : decode cX12_makes 51 = .ok (.getfield 288, 3) := by decide +kernel
theorem dX12_makes_54 : decode cX12_makes 54 = .ok (.iaload, 1) := by decide +kernel
theorem dX12_makes_55 : decode cX12_makes 55 = .ok (.aload_n 0, 1) := by decide +kernel
theorem dX12_makes_56 : decode cX12_makes 56 = .ok (.getfield 291, 3) := by decide +kernel
theorem dX12_makes_59 : decode cX12_makes 59 = .ok (.aload_n 0, 1) := by decide +kernel
theorem dX12_makes_60 : decode cX12_makes 60 = .ok (.getfield 288, 3) := by decide +kernel
theorem dX12_makes_63 : decode cX12_makes 63 = .ok (.iaload, 1) := by decide +kernel
theorem dX12_makes_64 : decode cX12_makes 64 = .ok (.invokevirtual 456, 3) := by decide +kernel
theorem dX12_makes_67 : decode cX12_makes 67 = .ok (.goto (-46), 3) := by decide +kernel
theorem dX12_makes_70 : decode cX12_makes 70 = .ok (.aload_n 0, 1) := by decide +kernel
theorem dX12_makes_71 : decode cX12_makes 71 = .ok (.getfield 41, 3) := by decide +kernel
theorem dX12_makes_74 : decode cX12_makes 74 = .ok (.ifCond .ne 10, 3) := by decide +kernel
theorem dX12_makes_77 : decode cX12_makes 77 = .ok (.aload_n 0, 1) := by decide +kernel
theorem dX12_makes_78 : decode cX12_makes 78 = .ok (.invokevirtual 441, 3) := by decide +kernel
theorem dX12_makes_81 : decode cX12_makes 81 = .ok (.goto 4, 3) := by decide +kernel
theorem dX12_makes_84 : decode cX12_makes 84 = .ok (.iconst (-1), 1) := by decide +kernel
theorem dX12_makes_85 : decode cX12_makes 85 = .ok (.ireturn, 1) := by decide +kernel
theorem dX12_does_0 : decode cX12_does 0 = .ok (.iload_n 1, 1) := by decide +kernel
theorem dX12_does_1 : decode cX12_does 1 = .ok (.tableswitch 505 1 22 #[103, 111, 119, 143, 191, 199, 207, 215, 228, 228, 287, 295, 303, 321, 346, 354, 383, 401, 425, 449, 473, 497], 103) := by decide +kernel
theorem dX12_does_104 : decode cX12_does 104 = .ok (.aload_n 0, 1) := by decide +kernel
theorem dX12_does_105 : decode cX12_does 105 = .ok (.iload_n 2, 1) := by decide +kernel
theorem dX12_does_106 : decode cX12_does 106 = .ok (.invokevirtual 459, 3) := by decide +kernel
theorem dX12_does_109 : decode cX12_does 109 = .ok (.goto 407, 3) := by decide +kernel
theorem dX12_does_112 : decode cX12_does 112 = .ok (.aload_n 0, 1) := by decide +kernel
theorem dX12_does_113 : decode cX12_does 113 = .ok (.iload_n 2, 1) := by decide +kernel
theorem dX12_does_114 : decode cX12_does 114 = .ok (.invokevirtual 462, 3) := by decide +kernel
theorem dX12_does_117 : decode cX12_does 117 = .ok (.goto 399, 3) := by decide +kernel
theorem dX12_does_120 : decode cX12_does 120 = .ok (.aload_n 0, 1) := by decide +kernel
theorem dX12_does_121 : decode cX12_does 121 = .ok (.bipush 25, 2) := by decide +kernel
theorem dX12_does_123 : decode cX12_does 123 = .ok (.aload_n 0, 1) := by decide +kernel
theorem dX12_does_124 : decode cX12_does 124 = .ok (.getfield 14, 3) := by decide +kernel
theorem dX12_does_127 : decode cX12_does 127 = .ok (.iload_n 2, 1) := by decide +kernel
theorem dX12_does_128 : decode cX12_does 128 = .ok (.iaload, 1) := by decide +kernel
theorem dX12_does_129 : decode cX12_does 129 = .ok (.iconst 0, 1) := by decide +kernel
theorem dX12_does_130 : decode cX12_does 130 = .ok (.iconst 0, 1) := by decide +kernel
theorem dX12_does_131 : decode cX12_does 131 = .ok (.iconst 0, 1) := by decide +kernel
theorem dX12_does_132 : decode cX12_does 132 = .ok (.aload_n 0, 1) := by decide +kernel
theorem dX12_does_133 : decode cX12_does 133 = .ok (.getfield 11, 3) := by decide +kernel
theorem dX12_does_136 : decode cX12_does 136 = .ok (.iload_n 2, 1) := by decide +kernel
theorem dX12_does_137 : decode cX12_does 137 = .ok (.iaload, 1) := by decide +kernel
theorem dX12_does_138 : decode cX12_does 138 = .ok (.invokevirtual 465, 3) := by decide +kernel
theorem dX12_does_141 : decode cX12_does 141 = .ok (.goto 375, 3) := by decide +kernel
theorem dX12_does_144 : decode cX12_does 144 = .ok (.iload_n 2, 1) := by decide +kernel
theorem dX12_does_145 : decode cX12_does 145 = .ok (.iconst (-1), 1) := by decide +kernel
theorem dX12_does_146 : decode cX12_does 146 = .ok (.if_icmp .ne 6, 3) := by decide +kernel
theorem dX12_does_149 : decode cX12_does 149 = .ok (.goto 367, 3) := by decide +kernel
theorem dX12_does_152 : decode cX12_does 152 = .ok (.aload_n 0, 1) := by decide +kernel
theorem dX12_does_153 : decode cX12_does 153 = .ok (.iconst 4, 1) := by decide +kernel
theorem dX12_does_154 : decode cX12_does 154 = .ok (.aload_n 0, 1) := by decide +kernel
theorem dX12_does_155 : decode cX12_does 155 = .ok (.getfield 35, 3) := by decide +kernel
theorem dX12_does_158 : decode cX12_does 158 = .ok (.iload_n 2, 1) := by decide +kernel
theorem dX12_does_159 : decode cX12_does 159 = .ok (.iaload, 1) := by decide +kernel
theorem dX12_does_160 : decode cX12_does 160 = .ok (.invokevirtual 454, 3) := by decide +kernel
theorem dX12_does_163 : decode cX12_does 163 = .ok (.aload_n 0, 1) := by decide +kernel
theorem dX12_does_164 : decode cX12_does 164 = .ok (.iconst 1, 1) := by decide +kernel
theorem dX12_does_165 : decode cX12_does 165 = .ok (.aload_n 0, 1) := by decide +kernel
theorem dX12_does_166 : decode cX12_does 166 = .ok (.getfield 7, 3) := by decide +kernel
theorem dX12_does_169 : decode cX12_does 169 = .ok (.iload_n 2, 1) := by decide +kernel
theorem dX12_does_170 : decode cX12_does 170 = .ok (.iaload, 1) := by decide +kernel
theorem dX12_does_171 : decode cX12_does 171 = .ok (.bipush 24, 2) := by decide +kernel
theorem dX12_does_173 : decode cX12_does 173 = .ok (.if_icmp .ne 12, 3) := by decide +kernel
theorem dX12_does_176 : decode cX12_does 176 = .ok (.aload_n 0, 1) := by decide +kernel
theorem dX12_does_177 : decode cX12_does 177 = .ok (.getfield 29, 3) := by decide +kernel
theorem dX12_does_180 : decode cX12_does 180 = .ok (.iload_n 2, 1) := by decide +kernel
theorem dX12_does_181 : decode cX12_does 181 = .ok (.iaload, 1) := by decide +kernel
theorem dX12_does_182 : decode cX12_does 182 = .ok (.goto 4, 3) := by decide +kernel
theorem dX12_does_185 : decode cX12_does 185 = .ok (.iload_n 2, 1) := by decide +kernel
theorem dX12_does_186 : decode cX12_does 186 = .ok (.invokevirtual 454, 3) := by decide +kernel
theorem dX12_does_189 : decode cX12_does 189 = .ok (.goto 327, 3) := by decide +kernel
theorem dX12_does_192 : decode cX12_does 192 = .ok (.aload_n 0, 1) := by decide +kernel
theorem dX12_does_193 : decode cX12_does 193 = .ok (.iload_n 2, 1) := by decide +kernel
theorem dX12_does_194 : decode cX12_does 194 = .ok (.invokevirtual 469, 3) := by decide +kernel
theorem dX12_does_197 : decode cX12_does 197 = .ok (.goto 319, 3) := by decide +kernel
theorem dX12_does_200 : decode cX12_does 200 = .ok (.aload_n 0, 1) := by decide +kernel
theorem dX12_does_201 : decode cX12_does 201 = .ok (.iload_n 2, 1) := by decide +kernel
theorem dX12_does_202 : decode cX12_does 202 = .ok (.invokevirtual 472, 3) := by decide +kernel
theorem dX12_does_205 : decode cX12_does 205 = .ok (.goto 311, 3) := by decide +kernel
theorem dX12_does_208 : decode cX12_does 208 = .ok (.aload_n 0, 1) := by decide +kernel
theorem dX12_does_209 : decode cX12_does 209 = .ok (.iload_n 2, 1) := by decide +kernel
theorem dX12_does_210 : decode cX12_does 210 = .ok (.invokevirtual 475, 3) := by decide +kernel
theorem dX12_does_213 : decode cX12_does 213 = .ok (.goto 303, 3) := by decide +kernel
theorem dX12_does_216 : decode cX12_does 216 = .ok (.aload_n 0, 1) := by decide +kernel
theorem dX12_does_217 : decode cX12_does 217 = .ok (.getfield 38, 3) := by decide +kernel
theorem dX12_does_220 : decode cX12_does 220 = .ok (.iload_n 2, 1) := by decide +kernel
theorem dX12_does_221 : decode cX12_does 221 = .ok (.aload_n 0, 1) := by decide +kernel
theorem dX12_does_222 : decode cX12_does 222 = .ok (.invokevirtual 441, 3) := by decide +kernel
theorem dX12_does_225 : decode cX12_does 225 = .ok (.iastore, 1) := by decide +kernel
theorem dX12_does_226 : decode cX12_does 226 = .ok (.goto 290, 3) := by decide +kernel
theorem dX12_does_229 : decode cX12_does 229 = .ok (.iload_n 2, 1) := by decide +kernel
theorem dX12_does_230 : decode cX12_does 230 = .ok (.iconst (-1), 1) := by decide +kernel
theorem dX12_does_231 : decode cX12_does 231 = .ok (.if_icmp .ne 6, 3) := by decide +kernel
theorem dX12_does_234 : decode cX12_does 234 = .ok (.goto 282, 3) := by decide +kernel
theorem dX12_does_237 : decode cX12_does 237 = .ok (.aload_n 0, 1) := by decide +kernel
theorem dX12_does_238 : decode cX12_does 238 = .ok (.iload_n 1, 1) := by decide +kernel
theorem dX12_does_239 : decode cX12_does 239 = .ok (.aload_n 0, 1) := by decide +kernel
theorem dX12_does_240 : decode cX12_does 240 = .ok (.getfield 35, 3) := by decide +kernel
theorem dX12_does_243 : decode cX12_does 243 = .ok (.iload_n 2, 1) := by decide +kernel
theorem dX12_does_244 : decode cX12_does 244 = .ok (.iaload, 1) := by decide +kernel
theorem dX12_does_245 : decode cX12_does 245 = .ok (.invokevirtual 454, 3) := by decide +kernel
theorem dX12_does_248 : decode cX12_does 248 = .ok (.aload_n 0, 1) := by decide +kernel
theorem dX12_does_249 : decode cX12_does 249 = .ok (.iload_n 2, 1) := by decide +kernel
theorem dX12_does_250 : decode cX12_does 250 = .ok (.invokevirtual 478, 3) := by decide +kernel
theorem dX12_does_253 : decode cX12_does 253 = .ok (.ifCond .eq 13, 3) := by decide +kernel
theorem dX12_does_256 : decode cX12_does 256 = .ok (.aload_n 0, 1) := by decide +kernel
theorem dX12_does_257 : decode cX12_does 257 = .ok (.bipush 7, 2) := by decide +kernel
theorem dX12_does_259 : decode cX12_does 259 = .ok (.iload_n 2, 1) := by decide +kernel
theorem dX12_does_260 : decode cX12_does 260 = .ok (.invokevirtual 454, 3) := by decide +kernel
theorem dX12_does_263 : decode cX12_does 263 = .ok (.goto 253, 3) := by decide +kernel
theorem dX12_does_266 : decode cX12_does 266 = .ok (.iload_n 1, 1) := by decide +kernel
theorem dX12_does_267 : decode cX12_does 267 = .ok (.bipush 9, 2) := by decide +kernel
theorem dX12_does_269 : decode cX12_does 269 = .ok (.if_icmp .ne 10, 3) := by decide +kernel
theorem dX12_does_272 : decode cX12_does 272 = .ok (.aload_n 0, 1) := by decide +kernel
theorem dX12_does_273 : decode cX12_does 273 = .ok (.bipush 8, 2) := by decide +kernel
theorem dX12_does_275 : decode cX12_does 275 = .ok (.iload_n 2, 1) := by decide +kernel
theorem dX12_does_276 : decode cX12_does 276 = .ok (.invokevirtual 454, 3) := by decide +kernel
theorem dX12_does_279 : decode cX12_does 279 = .ok (.aload_n 0, 1) := by decide +kernel
theorem dX12_does_280 : decode cX12_does 280 = .ok (.iconst 1, 1) := by decide +kernel
theorem dX12_does_281 : decode cX12_does 281 = .ok (.iload_n 2, 1) := by decide +kernel
theorem dX12_does_282 : decode cX12_does 282 = .ok (.invokevirtual 454, 3) := by decide +kernel
theorem dX12_does_285 : decode cX12_does 285 = .ok (.goto 231, 3) := by decide +kernel
theorem dX12_does_288 : decode cX12_does 288 = .ok (.aload_n 0, 1) := by decide +kernel
theorem dX12_does_289 : decode cX12_does 289 = .ok (.iload_n 2, 1) := by decide +kernel
theorem dX12_does_290 : decode cX12_does 290 = .ok (.invokevirtual 481, 3) := by decide +kernel
theorem dX12_does_293 : decode cX12_does 293 = .ok (.goto 223, 3) := by decide +kernel
theorem dX12_does_296 : decode cX12_does 296 = .ok (.aload_n 0, 1) := by decide +kernel
theorem dX12_does_297 : decode cX12_does 297 = .ok (.iload_n 2, 1) := by decide +kernel
theorem dX12_does_298 : decode cX12_does 298 = .ok (.invokevirtual 484, 3) := by decide +kernel
theorem dX12_does_301 : decode cX12_does 301 = .ok (.goto 215, 3) := by decide +kernel
theorem dX12_does_304 : decode cX12_does 304 = .ok (.aload_n 0, 1) := by decide +kernel
theorem dX12_does_305 : decode cX12_does 305 = .ok (.aload_n 0, 1) := by decide +kernel
theorem dX12_does_306 : decode cX12_does 306 = .ok (.getfield 294, 3) := by decide +kernel
theorem dX12_does_309 : decode cX12_does 309 = .ok (.aload_n 0, 1) := by decide +kernel
theorem dX12_does_310 : decode cX12_does 310 = .ok (.getfield 297, 3) := by decide +kernel
theorem dX12_does_313 : decode cX12_does 313 = .ok (.iconst 1, 1) := by decide +kernel
theorem dX12_does_314 : decode cX12_does 314 = .ok (.isub, 1) := by decide +kernel
theorem dX12_does_315 : decode cX12_does 315 = .ok (.iaload, 1) := by decide +kernel
theorem dX12_does_316 : decode cX12_does 316 = .ok (.invokevirtual 416, 3) := by decide +kernel
theorem dX12_does_319 : decode cX12_does 319 = .ok (.goto 197, 3) := by decide +kernel
theorem dX12_does_322 : decode cX12_does 322 = .ok (.aload_n 0, 1) := by decide +kernel
theorem dX12_does_323 : decode cX12_does 323 = .ok (.invokevirtual 441, 3) := by decide +kernel
theorem dX12_does_326 : decode cX12_does 326 = .ok (.istore_n 3, 1) := by decide +kernel
theorem dX12_does_327 : decode cX12_does 327 = .ok (.aload_n 0, 1) := by decide +kernel
theorem dX12_does_328 : decode cX12_does 328 = .ok (.invokevirtual 441, 3) := by decide +kernel
theorem dX12_does_331 : decode cX12_does 331 = .ok (.istore 4, 2) := by decide +kernel
theorem dX12_does_333 : decode cX12_does 333 = .ok (.aload_n 0, 1) := by decide +kernel
theorem dX12_does_334 : decode cX12_does 334 = .ok (.iload_n 3, 1) := by decide +kernel
theorem dX12_does_335 : decode cX12_does 335 = .ok (.invokevirtual 416, 3) := by decide +kernel
theorem dX12_does_338 : decode cX12_does 338 = .ok (.aload_n 0, 1) := by decide +kernel
theorem dX12_does_339 : decode cX12_does 339 = .ok (.iload 4, 2) := by decide +kernel
theorem dX12_does_341 : decode cX12_does 341 = .ok (.invokevirtual 416, 3) := by decide +kernel
theorem dX12_does_344 : decode cX12_does 344 = .ok (.goto 172, 3) := by decide +kernel
theorem dX12_does_347 : decode cX12_does 347 = .ok (.aload_n 0, 1) := by decide +kernel
theorem dX12_does_348 : decode cX12_does 348 = .ok (.iload_n 2, 1) := by decide +kernel
theorem dX12_does_349 : decode cX12_does 349 = .ok (.invokevirtual 487, 3) := by decide +kernel
theorem dX12_does_352 : decode cX12_does 352 = .ok (.goto 164, 3) := by decide +kernel
theorem dX12_does_355 : decode cX12_does 355 = .ok (.aload_n 0, 1) := by decide +kernel
theorem dX12_does_356 : decode cX12_does 356 = .ok (.bipush 11, 2) := by decide +kernel
theorem dX12_does_358 : decode cX12_does 358 = .ok (.aload_n 0, 1) := by decide +kernel
theorem dX12_does_359 : decode cX12_does 359 = .ok (.getfield 17, 3) := by decide +kernel
theorem dX12_does_362 : decode cX12_does 362 = .ok (.iload_n 2, 1) := by decide +kernel
theorem dX12_does_363 : decode cX12_does 363 = .ok (.iaload, 1) := by decide +kernel
theorem dX12_does_364 : decode cX12_does 364 = .ok (.aload_n 0, 1) := by decide +kernel
theorem dX12_does_365 : decode cX12_does 365 = .ok (.getfield 20, 3) := by decide +kernel
theorem dX12_does_368 : decode cX12_does 368 = .ok (.iload_n 2, 1) := by decide +kernel
theorem dX12_does_369 : decode cX12_does 369 = .ok (.iaload, 1) := by decide +kernel
theorem dX12_does_370 : decode cX12_does 370 = .ok (.iconst 0, 1) := by decide +kernel
theorem dX12_does_371 : decode cX12_does 371 = .ok (.iconst 0, 1) := by decide +kernel
theorem dX12_does_372 : decode cX12_does 372 = .ok (.aload_n 0, 1) := by decide +kernel
theorem dX12_does_373 : decode cX12_does 373 = .ok (.getfield 11, 3) := by decide +kernel
theorem dX12_does_376 : decode cX12_does 376 = .ok (.iload_n 2, 1) := by decide +kernel
theorem dX12_does_377 : decode cX12_does 377 = .ok (.iaload, 1) := by decide +kernel
theorem dX12_does_378 : decode cX12_does 378 = .ok (.invokevirtual 490, 3) := by decide +kernel
theorem dX12_does_381 : decode cX12_does 381 = .ok (.goto 135, 3) := by decide +kernel
theorem dX12_does_384 : decode cX12_does 384 = .ok (.aload_n 0, 1) := by decide +kernel
theorem dX12_does_385 : decode cX12_does 385 = .ok (.iconst 5, 1) := by decide +kernel
theorem dX12_does_386 : decode cX12_does 386 = .ok (.iconst 0, 1) := by decide +kernel
theorem dX12_does_387 : decode cX12_does 387 = .ok (.iconst 0, 1) := by decide +kernel
theorem dX12_does_388 : decode cX12_does 388 = .ok (.iconst 0, 1) := by decide +kernel
theorem dX12_does_389 : decode cX12_does 389 = .ok (.iconst 0, 1) := by decide +kernel
theorem dX12_does_390 : decode cX12_does 390 = .ok (.aload_n 0, 1) := by decide +kernel
theorem dX12_does_391 : decode cX12_does 391 = .ok (.getfield 11, 3) := by decide +kernel
theorem dX12_does_394 : decode cX12_does 394 = .ok (.iload_n 2, 1) := by decide +kernel
theorem dX12_does_395 : decode cX12_does 395 = .ok (.iaload, 1) := by decide +kernel
theorem dX12_does_396 : decode cX12_does 396 = .ok (.invokevirtual 465, 3) := by decide +kernel
theorem dX12_does_399 : decode cX12_does 399 = .ok (.goto 117, 3) := by decide +kernel
theorem dX12_does_402 : decode cX12_does 402 = .ok (.aload_n 0, 1) := by decide +kernel
theorem dX12_does_403 : decode cX12_does 403 = .ok (.bipush 21, 2) := by decide +kernel
theorem dX12_does_405 : decode cX12_does 405 = .ok (.aload_n 0, 1) := by decide +kernel
theorem dX12_does_406 : decode cX12_does 406 = .ok (.getfield 17, 3) := by decide +kernel
theorem dX12_does_409 : decode cX12_does 409 = .ok (.iload_n 2, 1) := by decide +kernel
theorem dX12_does_410 : decode cX12_does 410 = .ok (.iaload, 1) := by decide +kernel
theorem dX12_does_411 : decode cX12_does 411 = .ok (.iconst 0, 1) := by decide +kernel
theorem dX12_does_412 : decode cX12_does 412 = .ok (.iconst 0, 1) := by decide +kernel
theorem dX12_does_413 : decode cX12_does 413 = .ok (.iconst 0, 1) := by decide +kernel
theorem dX12_does_414 : decode cX12_does 414 = .ok (.aload_n 0, 1) := by decide +kernel
theorem dX12_does_415 : decode cX12_does 415 = .ok (.getfield 11, 3) := by decide +kernel
theorem dX12_does_418 : decode cX12_does 418 = .ok (.iload_n 2, 1) := by decide +kernel
theorem dX12_does_419 : decode cX12_does 419 = .ok (.iaload, 1) := by decide +kernel
theorem dX12_does_420 : decode cX12_does 420 = .ok (.invokevirtual 490, 3) := by decide +kernel
theorem dX12_does_423 : decode cX12_does 423 = .ok (.goto 93, 3) := by decide +kernel
theorem dX12_does_426 : decode cX12_does 426 = .ok (.aload_n 0, 1) := by decide +kernel
theorem dX12_does_427 : decode cX12_does 427 = .ok (.bipush 22, 2) := by decide +kernel
theorem dX12_does_429 : decode cX12_does 429 = .ok (.aload_n 0, 1) := by decide +kernel
theorem dX12_does_430 : decode cX12_does 430 = .ok (.getfield 17, 3) := by decide +kernel
theorem dX12_does_433 : decode cX12_does 433 = .ok (.iload_n 2, 1) := by decide +kernel
theorem dX12_does_434 : decode cX12_does 434 = .ok (.iaload, 1) := by decide +kernel
theorem dX12_does_435 : decode cX12_does 435 = .ok (.iconst 0, 1) := by decide +kernel
theorem dX12_does_436 : decode cX12_does 436 = .ok (.iconst 0, 1) := by decide +kernel
theorem dX12_does_437 : decode cX12_does 437 = .ok (.iconst 0, 1) := by decide +kernel
theorem dX12_does_438 : decode cX12_does 438 = .ok (.aload_n 0, 1) := by decide +kernel
theorem dX12_does_439 : decode cX12_does 439 = .ok (.getfield 11, 3) := by decide +kernel
theorem dX12_does_442 : decode cX12_does 442 = .ok (.iload_n 2, 1) := by decide +kernel
theorem dX12_does_443 : decode cX12_does 443 = .ok (.iaload, 1) := by decide +kernel
theorem dX12_does_444 : decode cX12_does 444 = .ok (.invokevirtual 490, 3) := by decide +kernel
theorem dX12_does_447 : decode cX12_does 447 = .ok (.goto 69, 3) := by decide +kernel
theorem dX12_does_450 : decode cX12_does 450 = .ok (.aload_n 0, 1) := by decide +kernel
theorem dX12_does_451 : decode cX12_does 451 = .ok (.bipush 9, 2) := by decide +kernel
theorem dX12_does_453 : decode cX12_does 453 = .ok (.iconst 1, 1) := by decide +kernel
theorem dX12_does_454 : decode cX12_does 454 = .ok (.aload_n 0, 1) := by decide +kernel
theorem dX12_does_455 : decode cX12_does 455 = .ok (.getfield 17, 3) := by decide +kernel
theorem dX12_does_458 : decode cX12_does 458 = .ok (.iload_n 2, 1) := by decide +kernel
theorem dX12_does_459 : decode cX12_does 459 = .ok (.iaload, 1) := by decide +kernel
theorem dX12_does_460 : decode cX12_does 460 = .ok (.iconst 0, 1) := by decide +kernel
theorem dX12_does_461 : decode cX12_does 461 = .ok (.iconst 0, 1) := by decide +kernel
theorem dX12_does_462 : decode cX12_does 462 = .ok (.aload_n 0, 1) := by decide +kernel
theorem dX12_does_463 : decode cX12_does 463 = .ok (.getfield 11, 3) := by decide +kernel
theorem dX12_does_466 : decode cX12_does 466 = .ok (.iload_n 2, 1) := by decide +kernel
theorem dX12_does_467 : decode cX12_does 467 = .ok (.iaload, 1) := by decide +kernel
theorem dX12_does_468 : decode cX12_does 468 = .ok (.invokevirtual 490, 3) := by decide +kernel
theorem dX12_does_471 : decode cX12_does 471 = .ok (.goto 45, 3) := by decide +kernel
theorem dX12_does_474 : decode cX12_does 474 = .ok (.aload_n 0, 1) := by decide +kernel
theorem dX12_does_475 : decode cX12_does 475 = .ok (.bipush 9, 2) := by decide +kernel
theorem dX12_does_477 : decode cX12_does 477 = .ok (.aload_n 0, 1) := by decide +kernel
theorem dX12_does_478 : decode cX12_does 478 = .ok (.getfield 17, 3) := by decide +kernel
theorem dX12_does_481 : decode cX12_does 481 = .ok (.iload_n 2, 1) := by decide +kernel
theorem dX12_does_482 : decode cX12_does 482 = .ok (.iaload, 1) := by decide +kernel
theorem dX12_does_483 : decode cX12_does 483 = .ok (.iconst 1, 1) := by decide +kernel
theorem dX12_does_484 : decode cX12_does 484 = .ok (.iconst 0, 1) := by decide +kernel
theorem dX12_does_485 : decode cX12_does 485 = .ok (.iconst 0, 1) := by decide +kernel
theorem dX12_does_486 : decode cX12_does 486 = .ok (.aload_n 0, 1) := by decide +kernel
theorem dX12_does_487 : decode cX12_does 487 = .ok (.getfield 11, 3) := by decide +kernel
theorem dX12_does_490 : decode cX12_does 490 = .ok (.iload_n 2, 1) := by decide +kernel
theorem dX12_does_491 : decode cX12_does 491 = .ok (.iaload, 1) := by decide +kernel
theorem dX12_does_492 : decode cX12_does 492 = .ok (.invokevirtual 490, 3) := by decide +kernel
theorem dX12_does_495 : decode cX12_does 495 = .ok (.goto 21, 3) := by decide +kernel
theorem dX12_does_498 : decode cX12_does 498 = .ok (.aload_n 0, 1) := by decide +kernel
theorem dX12_does_499 : decode cX12_does 499 = .ok (.iload_n 2, 1) := by decide +kernel
theorem dX12_does_500 : decode cX12_does 500 = .ok (.invokevirtual 493, 3) := by decide +kernel
theorem dX12_does_503 : decode cX12_does 503 = .ok (.goto 13, 3) := by decide +kernel
theorem dX12_does_506 : decode cX12_does 506 = .ok (.aload_n 0, 1) := by decide +kernel
theorem dX12_does_507 : decode cX12_does 507 = .ok (.dup, 1) := by decide +kernel
theorem dX12_does_508 : decode cX12_does 508 = .ok (.getfield 300, 3) := by decide +kernel
theorem dX12_does_511 : decode cX12_does 511 = .ok (.iconst 1, 1) := by decide +kernel
theorem dX12_does_512 : decode cX12_does 512 = .ok (.isub, 1) := by decide +kernel
theorem dX12_does_513 : decode cX12_does 513 = .ok (.putfield 300, 3) := by decide +kernel
theorem dX12_does_516 : decode cX12_does 516 = .ok (.return_, 1) := by decide +kernel
theorem dX12_isFun_0 : decode cX12_isFun 0 = .ok (.aload_n 0, 1) := by decide +kernel
theorem dX12_isFun_1 : decode cX12_isFun 1 = .ok (.getfield 7, 3) := by decide +kernel
theorem dX12_isFun_4 : decode cX12_isFun 4 = .ok (.iload_n 1, 1) := by decide +kernel
theorem dX12_isFun_5 : decode cX12_isFun 5 = .ok (.iaload, 1) := by decide +kernel
theorem dX12_isFun_6 : decode cX12_isFun 6 = .ok (.bipush 9, 2) := by decide +kernel
theorem dX12_isFun_8 : decode cX12_isFun 8 = .ok (.if_icmp .lt 18, 3) := by decide +kernel
theorem dX12_isFun_11 : decode cX12_isFun 11 = .ok (.aload_n 0, 1) := by decide +kernel
theorem dX12_isFun_12 : decode cX12_isFun 12 = .ok (.getfield 7, 3) := by decide +kernel
theorem dX12_isFun_15 : decode cX12_isFun 15 = .ok (.iload_n 1, 1) := by decide +kernel
theorem dX12_isFun_16 : decode cX12_isFun 16 = .ok (.iaload, 1) := by decide +kernel
theorem dX12_isFun_17 : decode cX12_isFun 17 = .ok (.bipush 13, 2) := by decide +kernel
theorem dX12_isFun_19 : decode cX12_isFun 19 = .ok (.if_icmp .gt 7, 3) := by decide +kernel
theorem dX12_isFun_22 : decode cX12_isFun 22 = .ok (.iconst 1, 1) := by decide +kernel
theorem dX12_isFun_23 : decode cX12_isFun 23 = .ok (.goto 4, 3) := by decide +kernel
theorem dX12_isFun_26 : decode cX12_isFun 26 = .ok (.iconst 0, 1) := by decide +kernel
theorem dX12_isFun_27 : decode cX12_isFun 27 = .ok (.ireturn, 1) := by decide +kernel
theorem dX12_make_0 : decode cX12_make 0 = .ok (.aload_n 0, 1) := by decide +kernel
theorem dX12_make_1 : decode cX12_make 1 = .ok (.getfield 7, 3) := by decide +kernel
theorem dX12_make_4 : decode cX12_make 4 = .ok (.iload_n 1, 1) := by decide +kernel
theorem dX12_make_5 : decode cX12_make 5 = .ok (.iaload, 1) := by decide +kernel
theorem dX12_make_6 : decode cX12_make 6 = .ok (.tableswitch 301 1 27 #[122, 122, 142, 301, 156, 181, 194, 216, 301, 301, 301, 301, 301, 301, 301, 301, 301, 301, 301, 238, 264, 285, 122, 301, 122, 122, 122], 122) := by decide +kernel
theorem dX12_make_128 : decode cX12_make 128 = .ok (.aload_n 0, 1) := by decide +kernel
theorem dX12_make_129 : decode cX12_make 129 = .ok (.iconst 5, 1) := by decide +kernel
theorem dX12_make_130 : decode cX12_make 130 = .ok (.iload_n 1, 1) := by decide +kernel
theorem dX12_make_131 : decode cX12_make 131 = .ok (.invokevirtual 454, 3) := by decide +kernel
theorem dX12_make_134 : decode cX12_make 134 = .ok (.aload_n 0, 1) := by decide +kernel
theorem dX12_make_135 : decode cX12_make 135 = .ok (.iconst 4, 1) := by decide +kernel
theorem dX12_make_136 : decode cX12_make 136 = .ok (.aload_n 0, 1) := by decide +kernel
theorem dX12_make_137 : decode cX12_make 137 = .ok (.getfield 29, 3) := by decide +kernel
theorem dX12_make_140 : decode cX12_make 140 = .ok (.iload_n 1, 1) := by decide +kernel
theorem dX12_make_141 : decode cX12_make 141 = .ok (.iaload, 1) := by decide +kernel
theorem dX12_make_142 : decode cX12_make 142 = .ok (.invokevirtual 454, 3) := by decide +kernel
theorem dX12_make_145 : decode cX12_make 145 = .ok (.goto 180, 3) := by decide +kernel
theorem dX12_make_148 : decode cX12_make 148 = .ok (.aload_n 0, 1) := by decide +kernel
theorem dX12_make_149 : decode cX12_make 149 = .ok (.iconst 2, 1) := by decide +kernel
theorem dX12_make_150 : decode cX12_make 150 = .ok (.aload_n 0, 1) := by decide +kernel
theorem dX12_make_151 : decode cX12_make 151 = .ok (.getfield 29, 3) := by decide +kernel
theorem dX12_make_154 : decode cX12_make 154 = .ok (.iload_n 1, 1) := by decide +kernel
theorem dX12_make_155 : decode cX12_make 155 = .ok (.iaload, 1) := by decide +kernel
theorem dX12_make_156 : decode cX12_make 156 = .ok (.invokevirtual 454, 3) := by decide +kernel
theorem dX12_make_159 : decode cX12_make 159 = .ok (.goto 166, 3) := by decide +kernel
theorem dX12_make_162 : decode cX12_make 162 = .ok (.aload_n 0, 1) := by decide +kernel
theorem dX12_make_163 : decode cX12_make 163 = .ok (.aload_n 0, 1) := by decide +kernel
theorem dX12_make_164 : decode cX12_make 164 = .ok (.getfield 496, 3) := by decide +kernel
theorem dX12_make_167 : decode cX12_make 167 = .ok (.iconst 4, 1) := by decide +kernel
theorem dX12_make_168 : decode cX12_make 168 = .ok (.aload_n 0, 1) := by decide +kernel
theorem dX12_make_169 : decode cX12_make 169 = .ok (.getfield 300, 3) := by decide +kernel
theorem dX12_make_172 : decode cX12_make 172 = .ok (.imul, 1) := by decide +kernel
theorem dX12_make_173 : decode cX12_make 173 = .ok (.aload_n 0, 1) := by decide +kernel
theorem dX12_make_174 : decode cX12_make 174 = .ok (.getfield 14, 3) := by decide +kernel
theorem dX12_make_177 : decode cX12_make 177 = .ok (.iload_n 1, 1) := by decide +kernel
theorem dX12_make_178 : decode cX12_make 178 = .ok (.iaload, 1) := by decide +kernel
theorem dX12_make_179 : decode cX12_make 179 = .ok (.iadd, 1) := by decide +kernel
theorem dX12_make_180 : decode cX12_make 180 = .ok (.iaload, 1) := by decide +kernel
theorem dX12_make_181 : decode cX12_make 181 = .ok (.invokevirtual 416, 3) := by decide +kernel
theorem dX12_make_184 : decode cX12_make 184 = .ok (.goto 141, 3) := by decide +kernel
theorem dX12_make_187 : decode cX12_make 187 = .ok (.aload_n 0, 1) := by decide +kernel
theorem dX12_make_188 : decode cX12_make 188 = .ok (.aload_n 0, 1) := by decide +kernel
theorem dX12_make_189 : decode cX12_make 189 = .ok (.getfield 14, 3) := by decide +kernel
theorem dX12_make_192 : decode cX12_make 192 = .ok (.iload_n 1, 1) := by decide +kernel
theorem dX12_make_193 : decode cX12_make 193 = .ok (.iaload, 1) := by decide +kernel
theorem dX12_make_194 : decode cX12_make 194 = .ok (.invokevirtual 416, 3) := by decide +kernel
theorem dX12_make_197 : decode cX12_make 197 = .ok (.goto 128, 3) := by decide +kernel
theorem dX12_make_200 : decode cX12_make 200 = .ok (.aload_n 0, 1) := by decide +kernel
theorem dX12_make_201 : decode cX12_make 201 = .ok (.bipush 22, 2) := by decide +kernel
theorem dX12_make_203 : decode cX12_make 203 = .ok (.iload_n 1, 1) := by decide +kernel
theorem dX12_make_204 : decode cX12_make 204 = .ok (.invokevirtual 454, 3) := by decide +kernel
theorem dX12_make_207 : decode cX12_make 207 = .ok (.aload_n 0, 1) := by decide +kernel
theorem dX12_make_208 : decode cX12_make 208 = .ok (.bipush 10, 2) := by decide +kernel
theorem dX12_make_210 : decode cX12_make 210 = .ok (.aload_n 0, 1) := by decide +kernel
theorem dX12_make_211 : decode cX12_make 211 = .ok (.getfield 29, 3) := by decide +kernel
theorem dX12_make_214 : decode cX12_make 214 = .ok (.iload_n 1, 1) := by decide +kernel
theorem dX12_make_215 : decode cX12_make 215 = .ok (.iaload, 1) := by decide +kernel
theorem dX12_make_216 : decode cX12_make 216 = .ok (.invokevirtual 454, 3) := by decide +kernel
theorem dX12_make_219 : decode cX12_make 219 = .ok (.goto 106, 3) := by decide +kernel
theorem dX12_make_222 : decode cX12_make 222 = .ok (.aload_n 0, 1) := by decide +kernel
theorem dX12_make_223 : decode cX12_make 223 = .ok (.bipush 12, 2) := by decide +kernel
theorem dX12_make_225 : decode cX12_make 225 = .ok (.iload_n 1, 1) := by decide +kernel
theorem dX12_make_226 : decode cX12_make 226 = .ok (.invokevirtual 454, 3) := by decide +kernel
theorem dX12_make_229 : decode cX12_make 229 = .ok (.aload_n 0, 1) := by decide +kernel
theorem dX12_make_230 : decode cX12_make 230 = .ok (.bipush 10, 2) := by decide +kernel
theorem dX12_make_232 : decode cX12_make 232 = .ok (.aload_n 0, 1) := by decide +kernel
theorem dX12_make_233 : decode cX12_make 233 = .ok (.getfield 29, 3) := by decide +kernel
theorem dX12_make_236 : decode cX12_make 236 = .ok (.iload_n 1, 1) := by decide +kernel
theorem dX12_make_237 : decode cX12_make 237 = .ok (.iaload, 1) := by decide +kernel
theorem dX12_make_238 : decode cX12_make 238 = .ok (.invokevirtual 454, 3) := by decide +kernel
theorem dX12_make_241 : decode cX12_make 241 = .ok (.goto 84, 3) := by decide +kernel
theorem dX12_make_244 : decode cX12_make 244 = .ok (.aload_n 0, 1) := by decide +kernel
theorem dX12_make_245 : decode cX12_make 245 = .ok (.iconst 1, 1) := by decide +kernel
theorem dX12_make_246 : decode cX12_make 246 = .ok (.aload_n 0, 1) := by decide +kernel
theorem dX12_make_247 : decode cX12_make 247 = .ok (.getfield 14, 3) := by decide +kernel
theorem dX12_make_250 : decode cX12_make 250 = .ok (.iload_n 1, 1) := by decide +kernel
theorem dX12_make_251 : decode cX12_make 251 = .ok (.iaload, 1) := by decide +kernel
theorem dX12_make_252 : decode cX12_make 252 = .ok (.aload_n 0, 1) := by decide +kernel
theorem dX12_make_253 : decode cX12_make 253 = .ok (.getfield 17, 3) := by decide +kernel
theorem dX12_make_256 : decode cX12_make 256 = .ok (.iload_n 1, 1) := by decide +kernel
theorem dX12_make_257 : decode cX12_make 257 = .ok (.iaload, 1) := by decide +kernel
theorem dX12_make_258 : decode cX12_make 258 = .ok (.aload_n 0, 1) := by decide +kernel
theorem dX12_make_259 : decode cX12_make 259 = .ok (.getfield 11, 3) := by decide +kernel
theorem dX12_make_262 : decode cX12_make 262 = .ok (.iload_n 1, 1) := by decide +kernel
theorem dX12_make_263 : decode cX12_make 263 = .ok (.iaload, 1) := by decide +kernel
theorem dX12_make_264 : decode cX12_make 264 = .ok (.invokevirtual 499, 3) := by decide +kernel
theorem dX12_make_267 : decode cX12_make 267 = .ok (.goto 58, 3) := by decide +kernel
theorem dX12_make_270 : decode cX12_make 270 = .ok (.aload_n 0, 1) := by decide +kernel
theorem dX12_make_271 : decode cX12_make 271 = .ok (.iconst 2, 1) := by decide +kernel
theorem dX12_make_272 : decode cX12_make 272 = .ok (.aload_n 0, 1) := by decide +kernel
theorem dX12_make_273 : decode cX12_make 273 = .ok (.getfield 14, 3) := by decide +kernel
theorem dX12_make_276 : decode cX12_make 276 = .ok (.iload_n 1, 1) := by decide +kernel
theorem dX12_make_277 : decode cX12_make 277 = .ok (.iaload, 1) := by decide +kernel
theorem dX12_make_278 : decode cX12_make 278 = .ok (.iconst 0, 1) := by decide +kernel
theorem dX12_make_279 : decode cX12_make 279 = .ok (.aload_n 0, 1) := by decide +kernel
theorem dX12_make_280 : decode cX12_make 280 = .ok (.getfield 11, 3) := by decide +kernel
theorem dX12_make_283 : decode cX12_make 283 = .ok (.iload_n 1, 1) := by decide +kernel
theorem dX12_make_284 : decode cX12_make 284 = .ok (.iaload, 1) := by decide +kernel
theorem dX12_make_285 : decode cX12_make 285 = .ok (.invokevirtual 499, 3) := by decide +kernel
theorem dX12_make_288 : decode cX12_make 288 = .ok (.goto 37, 3) := by decide +kernel
theorem dX12_make_291 : decode cX12_make 291 = .ok (.aload_n 0, 1) := by decide +kernel
theorem dX12_make_292 : decode cX12_make 292 = .ok (.iconst 3, 1) := by decide +kernel
theorem dX12_make_293 : decode cX12_make 293 = .ok (.iconst 0, 1) := by decide +kernel
theorem dX12_make_294 : decode cX12_make 294 = .ok (.iconst 0, 1) := by decide +kernel
theorem dX12_make_295 : decode cX12_make 295 = .ok (.aload_n 0, 1) := by decide +kernel
theorem dX12_make_296 : decode cX12_make 296 = .ok (.getfield 11, 3) := by decide +kernel
theorem dX12_make_299 : decode cX12_make 299 = .ok (.iload_n 1, 1) := by decide +kernel
theorem dX12_make_300 : decode cX12_make 300 = .ok (.iaload, 1) := by decide +kernel
theorem dX12_make_301 : decode cX12_make 301 = .ok (.invokevirtual 499, 3) := by decide +kernel
theorem dX12_make_304 : decode cX12_make 304 = .ok (.goto 21, 3) := by decide +kernel
theorem dX12_make_307 : decode cX12_make 307 = .ok (.aload_n 0, 1) := by decide +kernel
theorem dX12_make_308 : decode cX12_make 308 = .ok (.bipush 6, 2) := by decide +kernel
theorem dX12_make_310 : decode cX12_make 310 = .ok (.iload_n 1, 1) := by decide +kernel
theorem dX12_make_311 : decode cX12_make 311 = .ok (.invokevirtual 454, 3) := by decide +kernel
theorem dX12_make_314 : decode cX12_make 314 = .ok (.aload_n 0, 1) := by decide +kernel
theorem dX12_make_315 : decode cX12_make 315 = .ok (.iconst 1, 1) := by decide +kernel
theorem dX12_make_316 : decode cX12_make 316 = .ok (.aload_n 0, 1) := by decide +kernel
theorem dX12_make_317 : decode cX12_make 317 = .ok (.getfield 29, 3) := by decide +kernel
theorem dX12_make_320 : decode cX12_make 320 = .ok (.iload_n 1, 1) := by decide +kernel
theorem dX12_make_321 : decode cX12_make 321 = .ok (.iaload, 1) := by decide +kernel
theorem dX12_make_322 : decode cX12_make 322 = .ok (.invokevirtual 454, 3) := by decide +kernel
theorem dX12_make_325 : decode cX12_make 325 = .ok (.return_, 1) := by decide +kernel
theorem dX12_terms_0 : decode cX12_terms 0 = .ok (.iload_n 1, 1) := by decide +kernel
theorem dX12_terms_1 : decode cX12_terms 1 = .ok (.iconst (-1), 1) := by decide +kernel
theorem dX12_terms_2 : decode cX12_terms 2 = .ok (.if_icmp .ne 4, 3) := by decide +kernel
theorem dX12_terms_5 : decode cX12_terms 5 = .ok (.return_, 1) := by decide +kernel
theorem dX12_terms_6 : decode cX12_terms 6 = .ok (.aload_n 0, 1) := by decide +kernel
theorem dX12_terms_7 : decode cX12_terms 7 = .ok (.iconst 2, 1) := by decide +kernel
theorem dX12_terms_8 : decode cX12_terms 8 = .ok (.aload_n 0, 1) := by decide +kernel
theorem dX12_terms_9 : decode cX12_terms 9 = .ok (.getfield 35, 3) := by decide +kernel
theorem dX12_terms_12 : decode cX12_terms 12 = .ok (.iload_n 1, 1) := by decide +kernel
theorem dX12_terms_13 : decode cX12_terms 13 = .ok (.iaload, 1) := by decide +kernel
theorem dX12_terms_14 : decode cX12_terms 14 = .ok (.invokevirtual 454, 3) := by decide +kernel
theorem dX12_terms_17 : decode cX12_terms 17 = .ok (.aload_n 0, 1) := by decide +kernel
theorem dX12_terms_18 : decode cX12_terms 18 = .ok (.getfield 14, 3) := by decide +kernel
theorem dX12_terms_21 : decode cX12_terms 21 = .ok (.iload_n 1, 1) := by decide +kernel
theorem dX12_terms_22 : decode cX12_terms 22 = .ok (.iaload, 1) := by decide +kernel
theorem dX12_terms_23 : decode cX12_terms 23 = .ok (.ifCond .eq 9, 3) := by decide +kernel
theorem dX12_terms_26 : decode cX12_terms 26 = .ok (.aload_n 0, 1) := by decide +kernel
theorem dX12_terms_27 : decode cX12_terms 27 = .ok (.iconst 3, 1) := by decide +kernel
theorem dX12_terms_28 : decode cX12_terms 28 = .ok (.iload_n 1, 1) := by decide +kernel
theorem dX12_terms_29 : decode cX12_terms 29 = .ok (.invokevirtual 454, 3) := by decide +kernel
theorem dX12_terms_32 : decode cX12_terms 32 = .ok (.aload_n 0, 1) := by decide +kernel
theorem dX12_terms_33 : decode cX12_terms 33 = .ok (.iconst 1, 1) := by decide +kernel
theorem dX12_terms_34 : decode cX12_terms 34 = .ok (.aload_n 0, 1) := by decide +kernel
theorem dX12_terms_35 : decode cX12_terms 35 = .ok (.getfield 29, 3) := by decide +kernel
theorem dX12_terms_38 : decode cX12_terms 38 = .ok (.iload_n 1, 1) := by decide +kernel
theorem dX12_terms_39 : decode cX12_terms 39 = .ok (.iaload, 1) := by decide +kernel
theorem dX12_terms_40 : decode cX12_terms 40 = .ok (.invokevirtual 454, 3) := by decide +kernel
theorem dX12_terms_43 : decode cX12_terms 43 = .ok (.return_, 1) := by decide +kernel
theorem dX12_row_0 : decode cX12_row 0 = .ok (.aload_n 0, 1) := by decide +kernel
theorem dX12_row_1 : decode cX12_row 1 = .ok (.getfield 7, 3) := by decide +kernel
theorem dX12_row_4 : decode cX12_row 4 = .ok (.iload_n 1, 1) := by decide +kernel
theorem dX12_row_5 : decode cX12_row 5 = .ok (.iaload, 1) := by decide +kernel
theorem dX12_row_6 : decode cX12_row 6 = .ok (.istore_n 2, 1) := by decide +kernel
theorem dX12_row_7 : decode cX12_row 7 = .ok (.iconst 0, 1) := by decide +kernel
theorem dX12_row_8 : decode cX12_row 8 = .ok (.istore_n 3, 1) := by decide +kernel
theorem dX12_row_9 : decode cX12_row 9 = .ok (.aload_n 0, 1) := by decide +kernel
theorem dX12_row_10 : decode cX12_row 10 = .ok (.getfield 29, 3) := by decide +kernel
theorem dX12_row_13 : decode cX12_row 13 = .ok (.iload_n 1, 1) := by decide +kernel
theorem dX12_row_14 : decode cX12_row 14 = .ok (.iaload, 1) := by decide +kernel
theorem dX12_row_15 : decode cX12_row 15 = .ok (.istore 4, 2) := by decide +kernel
theorem dX12_row_17 : decode cX12_row 17 = .ok (.iload 4, 2) := by decide +kernel
theorem dX12_row_19 : decode cX12_row 19 = .ok (.iconst (-1), 1) := by decide +kernel
theorem dX12_row_20 : decode cX12_row 20 = .ok (.if_icmp .eq 18, 3) := by decide +kernel
theorem dX12_row_23 : decode cX12_row 23 = .ok (.iinc 3 1, 3) := by decide +kernel
theorem dX12_row_26 : decode cX12_row 26 = .ok (.aload_n 0, 1) := by decide +kernel
theorem dX12_row_27 : decode cX12_row 27 = .ok (.getfield 35, 3) := by decide +kernel
theorem dX12_row_30 : decode cX12_row 30 = .ok (.iload 4, 2) := by decide +kernel
theorem dX12_row_32 : decode cX12_row 32 = .ok (.iaload, 1) := by decide +kernel
theorem dX12_row_33 : decode cX12_row 33 = .ok (.istore 4, 2) := by decide +kernel
theorem dX12_row_35 : decode cX12_row 35 = .ok (.goto (-18), 3) := by decide +kernel
theorem dX12_row_38 : decode cX12_row 38 = .ok (.iload_n 2, 1) := by decide +kernel
theorem dX12_row_39 : decode cX12_row 39 = .ok (.iconst 1, 1) := by decide +kernel
theorem dX12_row_40 : decode cX12_row 40 = .ok (.if_icmp .eq 8, 3) := by decide +kernel
theorem dX12_row_43 : decode cX12_row 43 = .ok (.iload_n 2, 1) := by decide +kernel
theorem dX12_row_44 : decode cX12_row 44 = .ok (.iconst 2, 1) := by decide +kernel
theorem dX12_row_45 : decode cX12_row 45 = .ok (.if_icmp .ne 16, 3) := by decide +kernel
theorem dX12_row_48 : decode cX12_row 48 = .ok (.aload_n 0, 1) := by decide +kernel
theorem dX12_row_49 : decode cX12_row 49 = .ok (.aload_n 0, 1) := by decide +kernel
theorem dX12_row_50 : decode cX12_row 50 = .ok (.getfield 11, 3) := by decide +kernel
theorem dX12_row_53 : decode cX12_row 53 = .ok (.iload_n 1, 1) := by decide +kernel
theorem dX12_row_54 : decode cX12_row 54 = .ok (.iaload, 1) := by decide +kernel
theorem dX12_row_55 : decode cX12_row 55 = .ok (.iload_n 3, 1) := by decide +kernel
theorem dX12_row_56 : decode cX12_row 56 = .ok (.iconst 2, 1) := by decide +kernel
theorem dX12_row_57 : decode cX12_row 57 = .ok (.isub, 1) := by decide +kernel
theorem dX12_row_58 : decode cX12_row 58 = .ok (.invokevirtual 502, 3) := by decide +kernel
theorem dX12_row_61 : decode cX12_row 61 = .ok (.aload_n 0, 1) := by decide +kernel
theorem dX12_row_62 : decode cX12_row 62 = .ok (.getfield 41, 3) := by decide +kernel
theorem dX12_row_65 : decode cX12_row 65 = .ok (.ifCond .eq 4, 3) := by decide +kernel
theorem dX12_row_68 : decode cX12_row 68 = .ok (.return_, 1) := by decide +kernel
theorem dX12_row_69 : decode cX12_row 69 = .ok (.aload_n 0, 1) := by decide +kernel
theorem dX12_row_70 : decode cX12_row 70 = .ok (.dup, 1) := by decide +kernel
theorem dX12_row_71 : decode cX12_row 71 = .ok (.getfield 297, 3) := by decide +kernel
