theorem dX12_readFraction_156 : decode cX12_readFraction 156 = .ok (.iload_n 1, 1) := by decide +kernel
theorem dX12_readFraction_157 : decode cX12_readFraction 157 = .ok (.iaload, 1) := by decide +kernel
theorem dX12_readFraction_158 : decode cX12_readFraction 158 = .ok (.iload_n 3, 1) := by decide +kernel
theorem dX12_readFraction_159 : decode cX12_readFraction 159 = .ok (.imul, 1) := by decide +kernel
theorem dX12_readFraction_160 : decode cX12_readFraction 160 = .ok (.if_icmp .le 7, 3) := by decide +kernel
theorem dX12_readFraction_163 : decode cX12_readFraction 163 = .ok (.iconst 1, 1) := by decide +kernel
theorem dX12_readFraction_164 : decode cX12_readFraction 164 = .ok (.goto 4, 3) := by decide +kernel
theorem dX12_readFraction_167 : decode cX12_readFraction 167 = .ok (.iconst 0, 1) := by decide +kernel
theorem dX12_readFraction_168 : decode cX12_readFraction 168 = .ok (.istore 7, 2) := by decide +kernel
theorem dX12_readFraction_170 : decode cX12_readFraction 170 = .ok (.iload 7, 2) := by decide +kernel
theorem dX12_readFraction_172 : decode cX12_readFraction 172 = .ok (.ifCond .ne 13, 3) := by decide +kernel
theorem dX12_readFraction_175 : decode cX12_readFraction 175 = .ok (.aload_n 0, 1) := by decide +kernel
theorem dX12_readFraction_176 : decode cX12_readFraction 176 = .ok (.iconst 3, 1) := by decide +kernel
theorem dX12_readFraction_177 : decode cX12_readFraction 177 = .ok (.aload_n 0, 1) := by decide +kernel
theorem dX12_readFraction_178 : decode cX12_readFraction 178 = .ok (.getfield 58, 3) := by decide +kernel
theorem dX12_readFraction_181 : decode cX12_readFraction 181 = .ok (.invokevirtual 237, 3) := by decide +kernel
theorem dX12_readFraction_184 : decode cX12_readFraction 184 = .ok (.return_, 1) := by decide +kernel
theorem dX12_readFraction_185 : decode cX12_readFraction 185 = .ok (.iload_n 2, 1) := by decide +kernel
theorem dX12_readFraction_186 : decode cX12_readFraction 186 = .ok (.iload_n 3, 1) := by decide +kernel
theorem dX12_readFraction_187 : decode cX12_readFraction 187 = .ok (.invokestatic 258, 3) := by decide +kernel
theorem dX12_readFraction_190 : decode cX12_readFraction 190 = .ok (.istore 8, 2) := by decide +kernel
theorem dX12_readFraction_192 : decode cX12_readFraction 192 = .ok (.iload 6, 2) := by decide +kernel
theorem dX12_readFraction_194 : decode cX12_readFraction 194 = .ok (.ifCond .eq 26, 3) := by decide +kernel
theorem dX12_readFraction_197 : decode cX12_readFraction 197 = .ok (.aload_n 0, 1) := by decide +kernel
theorem dX12_readFraction_198 : decode cX12_readFraction 198 = .ok (.getfield 23, 3) := by decide +kernel
theorem dX12_readFraction_201 : decode cX12_readFraction 201 = .ok (.iload_n 1, 1) := by decide +kernel
theorem dX12_readFraction_202 : decode cX12_readFraction 202 = .ok (.iload_n 2, 1) := by decide +kernel
theorem dX12_readFraction_203 : decode cX12_readFraction 203 = .ok (.iload 8, 2) := by decide +kernel
theorem dX12_readFraction_205 : decode cX12_readFraction 205 = .ok (.idiv, 1) := by decide +kernel
theorem dX12_readFraction_206 : decode cX12_readFraction 206 = .ok (.iastore, 1) := by decide +kernel
theorem dX12_readFraction_207 : decode cX12_readFraction 207 = .ok (.aload_n 0, 1) := by decide +kernel
theorem dX12_readFraction_208 : decode cX12_readFraction 208 = .ok (.getfield 26, 3) := by decide +kernel
theorem dX12_readFraction_211 : decode cX12_readFraction 211 = .ok (.iload_n 1, 1) := by decide +kernel
theorem dX12_readFraction_212 : decode cX12_readFraction 212 = .ok (.iload_n 3, 1) := by decide +kernel
theorem dX12_readFraction_213 : decode cX12_readFraction 213 = .ok (.iload 8, 2) := by decide +kernel
theorem dX12_readFraction_215 : decode cX12_readFraction 215 = .ok (.idiv, 1) := by decide +kernel
theorem dX12_readFraction_216 : decode cX12_readFraction 216 = .ok (.iastore, 1) := by decide +kernel
theorem dX12_readFraction_217 : decode cX12_readFraction 217 = .ok (.goto 23, 3) := by decide +kernel
theorem dX12_readFraction_220 : decode cX12_readFraction 220 = .ok (.aload_n 0, 1) := by decide +kernel
theorem dX12_readFraction_221 : decode cX12_readFraction 221 = .ok (.getfield 17, 3) := by decide +kernel
theorem dX12_readFraction_224 : decode cX12_readFraction 224 = .ok (.iload_n 1, 1) := by decide +kernel
theorem dX12_readFraction_225 : decode cX12_readFraction 225 = .ok (.iload_n 2, 1) := by decide +kernel
theorem dX12_readFraction_226 : decode cX12_readFraction 226 = .ok (.iload 8, 2) := by decide +kernel
theorem dX12_readFraction_228 : decode cX12_readFraction 228 = .ok (.idiv, 1) := by decide +kernel
theorem dX12_readFraction_229 : decode cX12_readFraction 229 = .ok (.iastore, 1) := by decide +kernel
theorem dX12_readFraction_230 : decode cX12_readFraction 230 = .ok (.aload_n 0, 1) := by decide +kernel
theorem dX12_readFraction_231 : decode cX12_readFraction 231 = .ok (.getfield 20, 3) := by decide +kernel
theorem dX12_readFraction_234 : decode cX12_readFraction 234 = .ok (.iload_n 1, 1) := by decide +kernel
theorem dX12_readFraction_235 : decode cX12_readFraction 235 = .ok (.iload_n 3, 1) := by decide +kernel
theorem dX12_readFraction_236 : decode cX12_readFraction 236 = .ok (.iload 8, 2) := by decide +kernel
theorem dX12_readFraction_238 : decode cX12_readFraction 238 = .ok (.idiv, 1) := by decide +kernel
theorem dX12_readFraction_239 : decode cX12_readFraction 239 = .ok (.iastore, 1) := by decide +kernel
theorem dX12_readFraction_240 : decode cX12_readFraction 240 = .ok (.aload_n 0, 1) := by decide +kernel
theorem dX12_readFraction_241 : decode cX12_readFraction 241 = .ok (.invokevirtual 211, 3) := by decide +kernel
theorem dX12_readFraction_244 : decode cX12_readFraction 244 = .ok (.return_, 1) := by decide +kernel
theorem dX12_readCount_0 : decode cX12_readCount 0 = .ok (.aload_n 0, 1) := by decide +kernel
theorem dX12_readCount_1 : decode cX12_readCount 1 = .ok (.getfield 68, 3) := by decide +kernel
theorem dX12_readCount_4 : decode cX12_readCount 4 = .ok (.iconst 4, 1) := by decide +kernel
theorem dX12_readCount_5 : decode cX12_readCount 5 = .ok (.if_icmp .ne 12, 3) := by decide +kernel
theorem dX12_readCount_8 : decode cX12_readCount 8 = .ok (.aload_n 0, 1) := by decide +kernel
theorem dX12_readCount_9 : decode cX12_readCount 9 = .ok (.iconst 3, 1) := by decide +kernel
theorem dX12_readCount_10 : decode cX12_readCount 10 = .ok (.aload_n 0, 1) := by decide +kernel
theorem dX12_readCount_11 : decode cX12_readCount 11 = .ok (.getfield 58, 3) := by decide +kernel
theorem dX12_readCount_14 : decode cX12_readCount 14 = .ok (.invokevirtual 237, 3) := by decide +kernel
theorem dX12_readCount_17 : decode cX12_readCount 17 = .ok (.aload_n 0, 1) := by decide +kernel
theorem dX12_readCount_18 : decode cX12_readCount 18 = .ok (.getfield 68, 3) := by decide +kernel
theorem dX12_readCount_21 : decode cX12_readCount 21 = .ok (.iconst 3, 1) := by decide +kernel
theorem dX12_readCount_22 : decode cX12_readCount 22 = .ok (.if_icmp .eq 12, 3) := by decide +kernel
theorem dX12_readCount_25 : decode cX12_readCount 25 = .ok (.aload_n 0, 1) := by decide +kernel
theorem dX12_readCount_26 : decode cX12_readCount 26 = .ok (.iconst 1, 1) := by decide +kernel
theorem dX12_readCount_27 : decode cX12_readCount 27 = .ok (.aload_n 0, 1) := by decide +kernel
theorem dX12_readCount_28 : decode cX12_readCount 28 = .ok (.getfield 58, 3) := by decide +kernel
theorem dX12_readCount_31 : decode cX12_readCount 31 = .ok (.invokevirtual 237, 3) := by decide +kernel
theorem dX12_readCount_34 : decode cX12_readCount 34 = .ok (.aload_n 0, 1) := by decide +kernel
theorem dX12_readCount_35 : decode cX12_readCount 35 = .ok (.getfield 41, 3) := by decide +kernel
theorem dX12_readCount_38 : decode cX12_readCount 38 = .ok (.ifCond .eq 4, 3) := by decide +kernel
theorem dX12_readCount_41 : decode cX12_readCount 41 = .ok (.return_, 1) := by decide +kernel
theorem dX12_readCount_42 : decode cX12_readCount 42 = .ok (.aload_n 0, 1) := by decide +kernel
theorem dX12_readCount_43 : decode cX12_readCount 43 = .ok (.getfield 14, 3) := by decide +kernel
theorem dX12_readCount_46 : decode cX12_readCount 46 = .ok (.iload_n 1, 1) := by decide +kernel
theorem dX12_readCount_47 : decode cX12_readCount 47 = .ok (.iaload, 1) := by decide +kernel
theorem dX12_readCount_48 : decode cX12_readCount 48 = .ok (.istore_n 2, 1) := by decide +kernel
theorem dX12_readCount_49 : decode cX12_readCount 49 = .ok (.iload_n 2, 1) := by decide +kernel
theorem dX12_readCount_50 : decode cX12_readCount 50 = .ok (.bipush 6, 2) := by decide +kernel
theorem dX12_readCount_52 : decode cX12_readCount 52 = .ok (.if_icmp .ne 16, 3) := by decide +kernel
theorem dX12_readCount_55 : decode cX12_readCount 55 = .ok (.aload_n 0, 1) := by decide +kernel
theorem dX12_readCount_56 : decode cX12_readCount 56 = .ok (.getfield 17, 3) := by decide +kernel
theorem dX12_readCount_59 : decode cX12_readCount 59 = .ok (.iload_n 1, 1) := by decide +kernel
theorem dX12_readCount_60 : decode cX12_readCount 60 = .ok (.iaload, 1) := by decide +kernel
theorem dX12_readCount_61 : decode cX12_readCount 61 = .ok (.ifCond .eq 7, 3) := by decide +kernel
theorem dX12_readCount_64 : decode cX12_readCount 64 = .ok (.iconst 1, 1) := by decide +kernel
theorem dX12_readCount_65 : decode cX12_readCount 65 = .ok (.goto 4, 3) := by decide +kernel
theorem dX12_readCount_68 : decode cX12_readCount 68 = .ok (.iconst 0, 1) := by decide +kernel
theorem dX12_readCount_69 : decode cX12_readCount 69 = .ok (.istore_n 3, 1) := by decide +kernel
theorem dX12_readCount_70 : decode cX12_readCount 70 = .ok (.iload_n 3, 1) := by decide +kernel
theorem dX12_readCount_71 : decode cX12_readCount 71 = .ok (.ifCond .ne 27, 3) := by decide +kernel
theorem dX12_readCount_74 : decode cX12_readCount 74 = .ok (.iload_n 2, 1) := by decide +kernel
theorem dX12_readCount_75 : decode cX12_readCount 75 = .ok (.bipush 13, 2) := by decide +kernel
theorem dX12_readCount_77 : decode cX12_readCount 77 = .ok (.if_icmp .eq 21, 3) := by decide +kernel
theorem dX12_readCount_80 : decode cX12_readCount 80 = .ok (.iload_n 2, 1) := by decide +kernel
theorem dX12_readCount_81 : decode cX12_readCount 81 = .ok (.bipush 16, 2) := by decide +kernel
theorem dX12_readCount_83 : decode cX12_readCount 83 = .ok (.if_icmp .eq 15, 3) := by decide +kernel
theorem dX12_readCount_86 : decode cX12_readCount 86 = .ok (.iload_n 2, 1) := by decide +kernel
theorem dX12_readCount_87 : decode cX12_readCount 87 = .ok (.bipush 17, 2) := by decide +kernel
theorem dX12_readCount_89 : decode cX12_readCount 89 = .ok (.if_icmp .eq 9, 3) := by decide +kernel
theorem dX12_readCount_92 : decode cX12_readCount 92 = .ok (.iload_n 2, 1) := by decide +kernel
theorem dX12_readCount_93 : decode cX12_readCount 93 = .ok (.bipush 18, 2) := by decide +kernel
theorem dX12_readCount_95 : decode cX12_readCount 95 = .ok (.if_icmp .ne 7, 3) := by decide +kernel
theorem dX12_readCount_98 : decode cX12_readCount 98 = .ok (.iconst 0, 1) := by decide +kernel
theorem dX12_readCount_99 : decode cX12_readCount 99 = .ok (.goto 4, 3) := by decide +kernel
theorem dX12_readCount_102 : decode cX12_readCount 102 = .ok (.iconst 1, 1) := by decide +kernel
theorem dX12_readCount_103 : decode cX12_readCount 103 = .ok (.istore 4, 2) := by decide +kernel
theorem dX12_readCount_105 : decode cX12_readCount 105 = .ok (.iload_n 2, 1) := by decide +kernel
theorem dX12_readCount_106 : decode cX12_readCount 106 = .ok (.bipush 16, 2) := by decide +kernel
theorem dX12_readCount_108 : decode cX12_readCount 108 = .ok (.if_icmp .eq 15, 3) := by decide +kernel
theorem dX12_readCount_111 : decode cX12_readCount 111 = .ok (.iload_n 2, 1) := by decide +kernel
theorem dX12_readCount_112 : decode cX12_readCount 112 = .ok (.bipush 17, 2) := by decide +kernel
theorem dX12_readCount_114 : decode cX12_readCount 114 = .ok (.if_icmp .eq 9, 3) := by decide +kernel
theorem dX12_readCount_117 : decode cX12_readCount 117 = .ok (.iload_n 2, 1) := by decide +kernel
theorem dX12_readCount_118 : decode cX12_readCount 118 = .ok (.bipush 18, 2) := by decide +kernel
theorem dX12_readCount_120 : decode cX12_readCount 120 = .ok (.if_icmp .ne 9, 3) := by decide +kernel
theorem dX12_readCount_123 : decode cX12_readCount 123 = .ok (.sipush 1000, 3) := by decide +kernel
theorem dX12_readCount_126 : decode cX12_readCount 126 = .ok (.goto 5, 3) := by decide +kernel
theorem dX12_readCount_129 : decode cX12_readCount 129 = .ok (.bipush 32, 2) := by decide +kernel
theorem dX12_readCount_131 : decode cX12_readCount 131 = .ok (.istore 5, 2) := by decide +kernel
theorem dX12_readCount_133 : decode cX12_readCount 133 = .ok (.aload_n 0, 1) := by decide +kernel
theorem dX12_readCount_134 : decode cX12_readCount 134 = .ok (.getfield 102, 3) := by decide +kernel
theorem dX12_readCount_137 : decode cX12_readCount 137 = .ok (.iload 4, 2) := by decide +kernel
theorem dX12_readCount_139 : decode cX12_readCount 139 = .ok (.if_icmp .lt 12, 3) := by decide +kernel
theorem dX12_readCount_142 : decode cX12_readCount 142 = .ok (.aload_n 0, 1) := by decide +kernel
theorem dX12_readCount_143 : decode cX12_readCount 143 = .ok (.getfield 102, 3) := by decide +kernel
theorem dX12_readCount_146 : decode cX12_readCount 146 = .ok (.iload 5, 2) := by decide +kernel
theorem dX12_readCount_148 : decode cX12_readCount 148 = .ok (.if_icmp .le 13, 3) := by decide +kernel
theorem dX12_readCount_151 : decode cX12_readCount 151 = .ok (.aload_n 0, 1) := by decide +kernel
theorem dX12_readCount_152 : decode cX12_readCount 152 = .ok (.iconst 3, 1) := by decide +kernel
theorem dX12_readCount_153 : decode cX12_readCount 153 = .ok (.aload_n 0, 1) := by decide +kernel
theorem dX12_readCount_154 : decode cX12_readCount 154 = .ok (.getfield 58, 3) := by decide +kernel
theorem dX12_readCount_157 : decode cX12_readCount 157 = .ok (.invokevirtual 237, 3) := by decide +kernel
theorem dX12_readCount_160 : decode cX12_readCount 160 = .ok (.return_, 1) := by decide +kernel
theorem dX12_readCount_161 : decode cX12_readCount 161 = .ok (.iload_n 3, 1) := by decide +kernel
theorem dX12_readCount_162 : decode cX12_readCount 162 = .ok (.ifCond .eq 16, 3) := by decide +kernel
theorem dX12_readCount_165 : decode cX12_readCount 165 = .ok (.aload_n 0, 1) := by decide +kernel
theorem dX12_readCount_166 : decode cX12_readCount 166 = .ok (.getfield 20, 3) := by decide +kernel
theorem dX12_readCount_169 : decode cX12_readCount 169 = .ok (.iload_n 1, 1) := by decide +kernel
theorem dX12_readCount_170 : decode cX12_readCount 170 = .ok (.aload_n 0, 1) := by decide +kernel
theorem dX12_readCount_171 : decode cX12_readCount 171 = .ok (.getfield 102, 3) := by decide +kernel
theorem dX12_readCount_174 : decode cX12_readCount 174 = .ok (.iastore, 1) := by decide +kernel
theorem dX12_readCount_175 : decode cX12_readCount 175 = .ok (.goto 13, 3) := by decide +kernel
theorem dX12_readCount_178 : decode cX12_readCount 178 = .ok (.aload_n 0, 1) := by decide +kernel
theorem dX12_readCount_179 : decode cX12_readCount 179 = .ok (.getfield 17, 3) := by decide +kernel
theorem dX12_readCount_182 : decode cX12_readCount 182 = .ok (.iload_n 1, 1) := by decide +kernel
theorem dX12_readCount_183 : decode cX12_readCount 183 = .ok (.aload_n 0, 1) := by decide +kernel
theorem dX12_readCount_184 : decode cX12_readCount 184 = .ok (.getfield 102, 3) := by decide +kernel
theorem dX12_readCount_187 : decode cX12_readCount 187 = .ok (.iastore, 1) := by decide +kernel
theorem dX12_readCount_188 : decode cX12_readCount 188 = .ok (.aload_n 0, 1) := by decide +kernel
theorem dX12_readCount_189 : decode cX12_readCount 189 = .ok (.invokevirtual 211, 3) := by decide +kernel
theorem dX12_readCount_192 : decode cX12_readCount 192 = .ok (.return_, 1) := by decide +kernel
theorem dX12_readFun_0 : decode cX12_readFun 0 = .ok (.aload_n 0, 1) := by decide +kernel
theorem dX12_readFun_1 : decode cX12_readFun 1 = .ok (.getfield 147, 3) := by decide +kernel
theorem dX12_readFun_4 : decode cX12_readFun 4 = .ok (.iload_n 1, 1) := by decide +kernel
theorem dX12_readFun_5 : decode cX12_readFun 5 = .ok (.iaload, 1) := by decide +kernel
theorem dX12_readFun_6 : decode cX12_readFun 6 = .ok (.iconst 1, 1) := by decide +kernel
theorem dX12_readFun_7 : decode cX12_readFun 7 = .ok (.if_icmp .ne 14, 3) := by decide +kernel
theorem dX12_readFun_10 : decode cX12_readFun 10 = .ok (.aload_n 0, 1) := by decide +kernel
theorem dX12_readFun_11 : decode cX12_readFun 11 = .ok (.aload_n 0, 1) := by decide +kernel
theorem dX12_readFun_12 : decode cX12_readFun 12 = .ok (.getfield 153, 3) := by decide +kernel
theorem dX12_readFun_15 : decode cX12_readFun 15 = .ok (.invokevirtual 200, 3) := by decide +kernel
theorem dX12_readFun_18 : decode cX12_readFun 18 = .ok (.goto 158, 3) := by decide +kernel
theorem dX12_readFun_21 : decode cX12_readFun 21 = .ok (.aload_n 0, 1) := by decide +kernel
theorem dX12_readFun_22 : decode cX12_readFun 22 = .ok (.bipush 40, 2) := by decide +kernel
theorem dX12_readFun_24 : decode cX12_readFun 24 = .ok (.invokevirtual 197, 3) := by decide +kernel
theorem dX12_readFun_27 : decode cX12_readFun 27 = .ok (.ifCond .eq 21, 3) := by decide +kernel
theorem dX12_readFun_30 : decode cX12_readFun 30 = .ok (.aload_n 0, 1) := by decide +kernel
theorem dX12_readFun_31 : decode cX12_readFun 31 = .ok (.getfield 147, 3) := by decide +kernel
theorem dX12_readFun_34 : decode cX12_readFun 34 = .ok (.iload_n 1, 1) := by decide +kernel
theorem dX12_readFun_35 : decode cX12_readFun 35 = .ok (.iconst 1, 1) := by decide +kernel
theorem dX12_readFun_36 : decode cX12_readFun 36 = .ok (.iastore, 1) := by decide +kernel
theorem dX12_readFun_37 : decode cX12_readFun 37 = .ok (.aload_n 0, 1) := by decide +kernel
theorem dX12_readFun_38 : decode cX12_readFun 38 = .ok (.bipush 8, 2) := by decide +kernel
theorem dX12_readFun_40 : decode cX12_readFun 40 = .ok (.iconst (-1), 1) := by decide +kernel
theorem dX12_readFun_41 : decode cX12_readFun 41 = .ok (.iconst 0, 1) := by decide +kernel
theorem dX12_readFun_42 : decode cX12_readFun 42 = .ok (.invokevirtual 159, 3) := by decide +kernel
theorem dX12_readFun_45 : decode cX12_readFun 45 = .ok (.goto 131, 3) := by decide +kernel
theorem dX12_readFun_48 : decode cX12_readFun 48 = .ok (.aload_n 0, 1) := by decide +kernel
theorem dX12_readFun_49 : decode cX12_readFun 49 = .ok (.getfield 68, 3) := by decide +kernel
theorem dX12_readFun_52 : decode cX12_readFun 52 = .ok (.iconst 2, 1) := by decide +kernel
theorem dX12_readFun_53 : decode cX12_readFun 53 = .ok (.if_icmp .ne 114, 3) := by decide +kernel
theorem dX12_readFun_56 : decode cX12_readFun 56 = .ok (.aload_n 0, 1) := by decide +kernel
theorem dX12_readFun_57 : decode cX12_readFun 57 = .ok (.invokevirtual 218, 3) := by decide +kernel
theorem dX12_readFun_60 : decode cX12_readFun 60 = .ok (.iconst (-1), 1) := by decide +kernel
theorem dX12_readFun_61 : decode cX12_readFun 61 = .ok (.if_icmp .ne 10, 3) := by decide +kernel
theorem dX12_readFun_64 : decode cX12_readFun 64 = .ok (.aload_n 0, 1) := by decide +kernel
theorem dX12_readFun_65 : decode cX12_readFun 65 = .ok (.invokevirtual 222, 3) := by decide +kernel
theorem dX12_readFun_68 : decode cX12_readFun 68 = .ok (.goto 4, 3) := by decide +kernel
theorem dX12_readFun_71 : decode cX12_readFun 71 = .ok (.iconst (-1), 1) := by decide +kernel
theorem dX12_readFun_72 : decode cX12_readFun 72 = .ok (.istore_n 2, 1) := by decide +kernel
theorem dX12_readFun_73 : decode cX12_readFun 73 = .ok (.aload_n 0, 1) := by decide +kernel
theorem dX12_readFun_74 : decode cX12_readFun 74 = .ok (.invokevirtual 218, 3) := by decide +kernel
theorem dX12_readFun_77 : decode cX12_readFun 77 = .ok (.iconst (-1), 1) := by decide +kernel
theorem dX12_readFun_78 : decode cX12_readFun 78 = .ok (.if_icmp .ne 10, 3) := by decide +kernel
theorem dX12_readFun_81 : decode cX12_readFun 81 = .ok (.aload_n 0, 1) := by decide +kernel
theorem dX12_readFun_82 : decode cX12_readFun 82 = .ok (.invokevirtual 225, 3) := by decide +kernel
theorem dX12_readFun_85 : decode cX12_readFun 85 = .ok (.goto 4, 3) := by decide +kernel
theorem dX12_readFun_88 : decode cX12_readFun 88 = .ok (.iconst (-1), 1) := by decide +kernel
theorem dX12_readFun_89 : decode cX12_readFun 89 = .ok (.istore_n 3, 1) := by decide +kernel
theorem dX12_readFun_90 : decode cX12_readFun 90 = .ok (.iload_n 3, 1) := by decide +kernel
theorem dX12_readFun_91 : decode cX12_readFun 91 = .ok (.iconst 4, 1) := by decide +kernel
theorem dX12_readFun_92 : decode cX12_readFun 92 = .ok (.if_icmp .eq 32, 3) := by decide +kernel
theorem dX12_readFun_95 : decode cX12_readFun 95 = .ok (.iload_n 3, 1) := by decide +kernel
theorem dX12_readFun_96 : decode cX12_readFun 96 = .ok (.ifCond .ge 18, 3) := by decide +kernel
theorem dX12_readFun_99 : decode cX12_readFun 99 = .ok (.iload_n 2, 1) := by decide +kernel
theorem dX12_readFun_100 : decode cX12_readFun 100 = .ok (.iconst (-1), 1) := by decide +kernel
theorem dX12_readFun_101 : decode cX12_readFun 101 = .ok (.if_icmp .eq 13, 3) := by decide +kernel
theorem dX12_readFun_104 : decode cX12_readFun 104 = .ok (.aload_n 0, 1) := by decide +kernel
theorem dX12_readFun_105 : decode cX12_readFun 105 = .ok (.getfield 231, 3) := by decide +kernel
theorem dX12_readFun_108 : decode cX12_readFun 108 = .ok (.iload_n 2, 1) := by decide +kernel
theorem dX12_readFun_109 : decode cX12_readFun 109 = .ok (.iaload, 1) := by decide +kernel
theorem dX12_readFun_110 : decode cX12_readFun 110 = .ok (.iconst 1, 1) := by decide +kernel
theorem dX12_readFun_111 : decode cX12_readFun 111 = .ok (.if_icmp .eq 13, 3) := by decide +kernel
theorem dX12_readFun_114 : decode cX12_readFun 114 = .ok (.aload_n 0, 1) := by decide +kernel
theorem dX12_readFun_115 : decode cX12_readFun 115 = .ok (.iconst 2, 1) := by decide +kernel
theorem dX12_readFun_116 : decode cX12_readFun 116 = .ok (.aload_n 0, 1) := by decide +kernel
theorem dX12_readFun_117 : decode cX12_readFun 117 = .ok (.getfield 58, 3) := by decide +kernel
theorem dX12_readFun_120 : decode cX12_readFun 120 = .ok (.invokevirtual 237, 3) := by decide +kernel
theorem dX12_readFun_123 : decode cX12_readFun 123 = .ok (.return_, 1) := by decide +kernel
theorem dX12_readFun_124 : decode cX12_readFun 124 = .ok (.aload_n 0, 1) := by decide +kernel
theorem dX12_readFun_125 : decode cX12_readFun 125 = .ok (.iload_n 3, 1) := by decide +kernel
theorem dX12_readFun_126 : decode cX12_readFun 126 = .ok (.iconst 4, 1) := by decide +kernel
theorem dX12_readFun_127 : decode cX12_readFun 127 = .ok (.if_icmp .ne 8, 3) := by decide +kernel
theorem dX12_readFun_130 : decode cX12_readFun 130 = .ok (.bipush 9, 2) := by decide +kernel
theorem dX12_readFun_132 : decode cX12_readFun 132 = .ok (.goto 5, 3) := by decide +kernel
theorem dX12_readFun_135 : decode cX12_readFun 135 = .ok (.bipush 10, 2) := by decide +kernel
theorem dX12_readFun_137 : decode cX12_readFun 137 = .ok (.aload_n 0, 1) := by decide +kernel
theorem dX12_readFun_138 : decode cX12_readFun 138 = .ok (.getfield 58, 3) := by decide +kernel
theorem dX12_readFun_141 : decode cX12_readFun 141 = .ok (.invokevirtual 203, 3) := by decide +kernel
theorem dX12_readFun_144 : decode cX12_readFun 144 = .ok (.istore 4, 2) := by decide +kernel
theorem dX12_readFun_146 : decode cX12_readFun 146 = .ok (.aload_n 0, 1) := by decide +kernel
theorem dX12_readFun_147 : decode cX12_readFun 147 = .ok (.getfield 14, 3) := by decide +kernel
theorem dX12_readFun_150 : decode cX12_readFun 150 = .ok (.iload 4, 2) := by decide +kernel
theorem dX12_readFun_152 : decode cX12_readFun 152 = .ok (.iload_n 2, 1) := by decide +kernel
theorem dX12_readFun_153 : decode cX12_readFun 153 = .ok (.iastore, 1) := by decide +kernel
theorem dX12_readFun_154 : decode cX12_readFun 154 = .ok (.aload_n 0, 1) := by decide +kernel
theorem dX12_readFun_155 : decode cX12_readFun 155 = .ok (.invokevirtual 211, 3) := by decide +kernel
theorem dX12_readFun_158 : decode cX12_readFun 158 = .ok (.aload_n 0, 1) := by decide +kernel
theorem dX12_readFun_159 : decode cX12_readFun 159 = .ok (.iload 4, 2) := by decide +kernel
theorem dX12_readFun_161 : decode cX12_readFun 161 = .ok (.invokevirtual 200, 3) := by decide +kernel
theorem dX12_readFun_164 : decode cX12_readFun 164 = .ok (.goto 12, 3) := by decide +kernel
theorem dX12_readFun_167 : decode cX12_readFun 167 = .ok (.aload_n 0, 1) := by decide +kernel
theorem dX12_readFun_168 : decode cX12_readFun 168 = .ok (.iconst 1, 1) := by decide +kernel
theorem dX12_readFun_169 : decode cX12_readFun 169 = .ok (.aload_n 0, 1) := by decide +kernel
theorem dX12_readFun_170 : decode cX12_readFun 170 = .ok (.getfield 58, 3) := by decide +kernel
theorem dX12_readFun_173 : decode cX12_readFun 173 = .ok (.invokevirtual 237, 3) := by decide +kernel
theorem dX12_readFun_176 : decode cX12_readFun 176 = .ok (.return_, 1) := by decide +kernel
theorem dX12_readPieces_0 : decode cX12_readPieces 0 = .ok (.aload_n 0, 1) := by decide +kernel
theorem dX12_readPieces_1 : decode cX12_readPieces 1 = .ok (.getfield 147, 3) := by decide +kernel
theorem dX12_readPieces_4 : decode cX12_readPieces 4 = .ok (.iload_n 1, 1) := by decide +kernel
theorem dX12_readPieces_5 : decode cX12_readPieces 5 = .ok (.iaload, 1) := by decide +kernel
theorem dX12_readPieces_6 : decode cX12_readPieces 6 = .ok (.ifCond .ne 51, 3) := by decide +kernel
theorem dX12_readPieces_9 : decode cX12_readPieces 9 = .ok (.aload_n 0, 1) := by decide +kernel
theorem dX12_readPieces_10 : decode cX12_readPieces 10 = .ok (.aload_n 0, 1) := by decide +kernel
theorem dX12_readPieces_11 : decode cX12_readPieces 11 = .ok (.getfield 58, 3) := by decide +kernel
theorem dX12_readPieces_14 : decode cX12_readPieces 14 = .ok (.invokevirtual 243, 3) := by decide +kernel
theorem dX12_readPieces_17 : decode cX12_readPieces 17 = .ok (.ifCond .ne 4, 3) := by decide +kernel
theorem dX12_readPieces_20 : decode cX12_readPieces 20 = .ok (.return_, 1) := by decide +kernel
theorem dX12_readPieces_21 : decode cX12_readPieces 21 = .ok (.aload_n 0, 1) := by decide +kernel
theorem dX12_readPieces_22 : decode cX12_readPieces 22 = .ok (.getfield 144, 3) := by decide +kernel
theorem dX12_readPieces_25 : decode cX12_readPieces 25 = .ok (.iload_n 1, 1) := by decide +kernel
theorem dX12_readPieces_26 : decode cX12_readPieces 26 = .ok (.aload_n 0, 1) := by decide +kernel
theorem dX12_readPieces_27 : decode cX12_readPieces 27 = .ok (.bipush 11, 2) := by decide +kernel
theorem dX12_readPieces_29 : decode cX12_readPieces 29 = .ok (.aload_n 0, 1) := by decide +kernel
theorem dX12_readPieces_30 : decode cX12_readPieces 30 = .ok (.getfield 58, 3) := by decide +kernel
theorem dX12_readPieces_33 : decode cX12_readPieces 33 = .ok (.invokevirtual 203, 3) := by decide +kernel
theorem dX12_readPieces_36 : decode cX12_readPieces 36 = .ok (.iastore, 1) := by decide +kernel
theorem dX12_readPieces_37 : decode cX12_readPieces 37 = .ok (.aload_n 0, 1) := by decide +kernel
theorem dX12_readPieces_38 : decode cX12_readPieces 38 = .ok (.getfield 147, 3) := by decide +kernel
theorem dX12_readPieces_41 : decode cX12_readPieces 41 = .ok (.iload_n 1, 1) := by decide +kernel
theorem dX12_readPieces_42 : decode cX12_readPieces 42 = .ok (.iconst 1, 1) := by decide +kernel
theorem dX12_readPieces_43 : decode cX12_readPieces 43 = .ok (.iastore, 1) := by decide +kernel
theorem dX12_readPieces_44 : decode cX12_readPieces 44 = .ok (.aload_n 0, 1) := by decide +kernel
theorem dX12_readPieces_45 : decode cX12_readPieces 45 = .ok (.invokevirtual 211, 3) := by decide +kernel
theorem dX12_readPieces_48 : decode cX12_readPieces 48 = .ok (.aload_n 0, 1) := by decide +kernel
theorem dX12_readPieces_49 : decode cX12_readPieces 49 = .ok (.bipush 9, 2) := by decide +kernel
theorem dX12_readPieces_51 : decode cX12_readPieces 51 = .ok (.iconst (-1), 1) := by decide +kernel
theorem dX12_readPieces_52 : decode cX12_readPieces 52 = .ok (.iconst 0, 1) := by decide +kernel
theorem dX12_readPieces_53 : decode cX12_readPieces 53 = .ok (.invokevirtual 159, 3) := by decide +kernel
theorem dX12_readPieces_56 : decode cX12_readPieces 56 = .ok (.return_, 1) := by decide +kernel
theorem dX12_readPieces_57 : decode cX12_readPieces 57 = .ok (.aload_n 0, 1) := by decide +kernel
theorem dX12_readPieces_58 : decode cX12_readPieces 58 = .ok (.aload_n 0, 1) := by decide +kernel
theorem dX12_readPieces_59 : decode cX12_readPieces 59 = .ok (.getfield 144, 3) := by decide +kernel
theorem dX12_readPieces_62 : decode cX12_readPieces 62 = .ok (.iload_n 1, 1) := by decide +kernel
theorem dX12_readPieces_63 : decode cX12_readPieces 63 = .ok (.iaload, 1) := by decide +kernel
theorem dX12_readPieces_64 : decode cX12_readPieces 64 = .ok (.aload_n 0, 1) := by decide +kernel
theorem dX12_readPieces_65 : decode cX12_readPieces 65 = .ok (.getfield 153, 3) := by decide +kernel
theorem dX12_readPieces_68 : decode cX12_readPieces 68 = .ok (.invokevirtual 207, 3) := by decide +kernel
theorem dX12_readPieces_71 : decode cX12_readPieces 71 = .ok (.aload_n 0, 1) := by decide +kernel
theorem dX12_readPieces_72 : decode cX12_readPieces 72 = .ok (.bipush 46, 2) := by decide +kernel
theorem dX12_readPieces_74 : decode cX12_readPieces 74 = .ok (.invokevirtual 197, 3) := by decide +kernel
theorem dX12_readPieces_77 : decode cX12_readPieces 77 = .ok (.ifCond .eq 18, 3) := by decide +kernel
theorem dX12_readPieces_80 : decode cX12_readPieces 80 = .ok (.aload_n 0, 1) := by decide +kernel
theorem dX12_readPieces_81 : decode cX12_readPieces 81 = .ok (.invokevirtual 211, 3) := by decide +kernel
theorem dX12_readPieces_84 : decode cX12_readPieces 84 = .ok (.aload_n 0, 1) := by decide +kernel
theorem dX12_readPieces_85 : decode cX12_readPieces 85 = .ok (.bipush 9, 2) := by decide +kernel
theorem dX12_readPieces_87 : decode cX12_readPieces 87 = .ok (.iconst (-1), 1) := by decide +kernel
theorem dX12_readPieces_88 : decode cX12_readPieces 88 = .ok (.iconst 0, 1) := by decide +kernel
theorem dX12_readPieces_89 : decode cX12_readPieces 89 = .ok (.invokevirtual 159, 3) := by decide +kernel
theorem dX12_readPieces_92 : decode cX12_readPieces 92 = .ok (.goto 48, 3) := by decide +kernel
theorem dX12_readPieces_95 : decode cX12_readPieces 95 = .ok (.aload_n 0, 1) := by decide +kernel
theorem dX12_readPieces_96 : decode cX12_readPieces 96 = .ok (.bipush 41, 2) := by decide +kernel
theorem dX12_readPieces_98 : decode cX12_readPieces 98 = .ok (.invokevirtual 197, 3) := by decide +kernel
theorem dX12_readPieces_101 : decode cX12_readPieces 101 = .ok (.ifCond .eq 30, 3) := by decide +kernel
theorem dX12_readPieces_104 : decode cX12_readPieces 104 = .ok (.aload_n 0, 1) := by decide +kernel
theorem dX12_readPieces_105 : decode cX12_readPieces 105 = .ok (.dup, 1) := by decide +kernel
theorem dX12_readPieces_106 : decode cX12_readPieces 106 = .ok (.getfield 156, 3) := by decide +kernel
theorem dX12_readPieces_109 : decode cX12_readPieces 109 = .ok (.iconst 1, 1) := by decide +kernel
theorem dX12_readPieces_110 : decode cX12_readPieces 110 = .ok (.isub, 1) := by decide +kernel
theorem dX12_readPieces_111 : decode cX12_readPieces 111 = .ok (.putfield 156, 3) := by decide +kernel
theorem dX12_readPieces_114 : decode cX12_readPieces 114 = .ok (.aload_n 0, 1) := by decide +kernel
theorem dX12_readPieces_115 : decode cX12_readPieces 115 = .ok (.invokevirtual 211, 3) := by decide +kernel
theorem dX12_readPieces_118 : decode cX12_readPieces 118 = .ok (.aload_n 0, 1) := by decide +kernel
theorem dX12_readPieces_119 : decode cX12_readPieces 119 = .ok (.aload_n 0, 1) := by decide +kernel
theorem dX12_readPieces_120 : decode cX12_readPieces 120 = .ok (.getfield 144, 3) := by decide +kernel
theorem dX12_readPieces_123 : decode cX12_readPieces 123 = .ok (.iload_n 1, 1) := by decide +kernel
theorem dX12_readPieces_124 : decode cX12_readPieces 124 = .ok (.iaload, 1) := by decide +kernel
theorem dX12_readPieces_125 : decode cX12_readPieces 125 = .ok (.invokevirtual 200, 3) := by decide +kernel
theorem dX12_readPieces_128 : decode cX12_readPieces 128 = .ok (.goto 12, 3) := by decide +kernel
theorem dX12_readPieces_131 : decode cX12_readPieces 131 = .ok (.aload_n 0, 1) := by decide +kernel
theorem dX12_readPieces_132 : decode cX12_readPieces 132 = .ok (.iconst 1, 1) := by decide +kernel
theorem dX12_readPieces_133 : decode cX12_readPieces 133 = .ok (.aload_n 0, 1) := by decide +kernel
theorem dX12_readPieces_134 : decode cX12_readPieces 134 = .ok (.getfield 58, 3) := by decide +kernel
theorem dX12_readPieces_137 : decode cX12_readPieces 137 = .ok (.invokevirtual 237, 3) := by decide +kernel
theorem dX12_readPieces_140 : decode cX12_readPieces 140 = .ok (.return_, 1) := by decide +kernel
theorem dX12_readPiece_0 : decode cX12_readPiece 0 = .ok (.aload_n 0, 1) := by decide +kernel
theorem dX12_readPiece_1 : decode cX12_readPiece 1 = .ok (.getfield 147, 3) := by decide +kernel
theorem dX12_readPiece_4 : decode cX12_readPiece 4 = .ok (.iload_n 1, 1) := by decide +kernel
theorem dX12_readPiece_5 : decode cX12_readPiece 5 = .ok (.iaload, 1) := by decide +kernel
theorem dX12_readPiece_6 : decode cX12_readPiece 6 = .ok (.iconst 1, 1) := by decide +kernel
theorem dX12_readPiece_7 : decode cX12_readPiece 7 = .ok (.if_icmp .ne 16, 3) := by decide +kernel
theorem dX12_readPiece_10 : decode cX12_readPiece 10 = .ok (.aload_n 0, 1) := by decide +kernel
theorem dX12_readPiece_11 : decode cX12_readPiece 11 = .ok (.aload_n 0, 1) := by decide +kernel
theorem dX12_readPiece_12 : decode cX12_readPiece 12 = .ok (.getfield 144, 3) := by decide +kernel
theorem dX12_readPiece_15 : decode cX12_readPiece 15 = .ok (.iload_n 1, 1) := by decide +kernel
theorem dX12_readPiece_16 : decode cX12_readPiece 16 = .ok (.iaload, 1) := by decide +kernel
theorem dX12_readPiece_17 : decode cX12_readPiece 17 = .ok (.invokevirtual 200, 3) := by decide +kernel
theorem dX12_readPiece_20 : decode cX12_readPiece 20 = .ok (.goto 310, 3) := by decide +kernel
theorem dX12_readPiece_23 : decode cX12_readPiece 23 = .ok (.aload_n 0, 1) := by decide +kernel
theorem dX12_readPiece_24 : decode cX12_readPiece 24 = .ok (.getfield 147, 3) := by decide +kernel
theorem dX12_readPiece_27 : decode cX12_readPiece 27 = .ok (.iload_n 1, 1) := by decide +kernel
theorem dX12_readPiece_28 : decode cX12_readPiece 28 = .ok (.iaload, 1) := by decide +kernel
theorem dX12_readPiece_29 : decode cX12_readPiece 29 = .ok (.iconst 2, 1) := by decide +kernel
theorem dX12_readPiece_30 : decode cX12_readPiece 30 = .ok (.if_icmp .ne 30, 3) := by decide +kernel
theorem dX12_readPiece_33 : decode cX12_readPiece 33 = .ok (.aload_n 0, 1) := by decide +kernel
theorem dX12_readPiece_34 : decode cX12_readPiece 34 = .ok (.aload_n 0, 1) := by decide +kernel
theorem dX12_readPiece_35 : decode cX12_readPiece 35 = .ok (.getfield 144, 3) := by decide +kernel
theorem dX12_readPiece_38 : decode cX12_readPiece 38 = .ok (.iload_n 1, 1) := by decide +kernel
theorem dX12_readPiece_39 : decode cX12_readPiece 39 = .ok (.iaload, 1) := by decide +kernel
theorem dX12_readPiece_40 : decode cX12_readPiece 40 = .ok (.aload_n 0, 1) := by decide +kernel
theorem dX12_readPiece_41 : decode cX12_readPiece 41 = .ok (.getfield 153, 3) := by decide +kernel
theorem dX12_readPiece_44 : decode cX12_readPiece 44 = .ok (.invokevirtual 207, 3) := by decide +kernel
theorem dX12_readPiece_47 : decode cX12_readPiece 47 = .ok (.aload_n 0, 1) := by decide +kernel
theorem dX12_readPiece_48 : decode cX12_readPiece 48 = .ok (.aload_n 0, 1) := by decide +kernel
theorem dX12_readPiece_49 : decode cX12_readPiece 49 = .ok (.getfield 144, 3) := by decide +kernel
theorem dX12_readPiece_52 : decode cX12_readPiece 52 = .ok (.iload_n 1, 1) := by decide +kernel
theorem dX12_readPiece_53 : decode cX12_readPiece 53 = .ok (.iaload, 1) := by decide +kernel
theorem dX12_readPiece_54 : decode cX12_readPiece 54 = .ok (.invokevirtual 200, 3) := by decide +kernel
theorem dX12_readPiece_57 : decode cX12_readPiece 57 = .ok (.goto 273, 3) := by decide +kernel
theorem dX12_readPiece_60 : decode cX12_readPiece 60 = .ok (.aload_n 0, 1) := by decide +kernel
theorem dX12_readPiece_61 : decode cX12_readPiece 61 = .ok (.bipush 40, 2) := by decide +kernel
theorem dX12_readPiece_63 : decode cX12_readPiece 63 = .ok (.invokevirtual 197, 3) := by decide +kernel
theorem dX12_readPiece_66 : decode cX12_readPiece 66 = .ok (.ifCond .eq 24, 3) := by decide +kernel
theorem dX12_readPiece_69 : decode cX12_readPiece 69 = .ok (.aload_n 0, 1) := by decide +kernel
theorem dX12_readPiece_70 : decode cX12_readPiece 70 = .ok (.dup, 1) := by decide +kernel
theorem dX12_readPiece_71 : decode cX12_readPiece 71 = .ok (.getfield 141, 3) := by decide +kernel
theorem dX12_readPiece_74 : decode cX12_readPiece 74 = .ok (.iconst 1, 1) := by decide +kernel
theorem dX12_readPiece_75 : decode cX12_readPiece 75 = .ok (.isub, 1) := by decide +kernel
theorem dX12_readPiece_76 : decode cX12_readPiece 76 = .ok (.putfield 141, 3) := by decide +kernel
theorem dX12_readPiece_79 : decode cX12_readPiece 79 = .ok (.aload_n 0, 1) := by decide +kernel
theorem dX12_readPiece_80 : decode cX12_readPiece 80 = .ok (.bipush 8, 2) := by decide +kernel
theorem dX12_readPiece_82 : decode cX12_readPiece 82 = .ok (.iconst (-1), 1) := by decide +kernel
theorem dX12_readPiece_83 : decode cX12_readPiece 83 = .ok (.iconst 0, 1) := by decide +kernel
theorem dX12_readPiece_84 : decode cX12_readPiece 84 = .ok (.invokevirtual 159, 3) := by decide +kernel
theorem dX12_readPiece_87 : decode cX12_readPiece 87 = .ok (.goto 243, 3) := by decide +kernel
theorem dX12_readPiece_90 : decode cX12_readPiece 90 = .ok (.aload_n 0, 1) := by decide +kernel
theorem dX12_readPiece_91 : decode cX12_readPiece 91 = .ok (.invokevirtual 214, 3) := by decide +kernel
theorem dX12_readPiece_94 : decode cX12_readPiece 94 = .ok (.ifCond .eq 52, 3) := by decide +kernel
theorem dX12_readPiece_97 : decode cX12_readPiece 97 = .ok (.aload_n 0, 1) := by decide +kernel
theorem dX12_readPiece_98 : decode cX12_readPiece 98 = .ok (.bipush 12, 2) := by decide +kernel
theorem dX12_readPiece_100 : decode cX12_readPiece 100 = .ok (.aload_n 0, 1) := by decide +kernel
theorem dX12_readPiece_101 : decode cX12_readPiece 101 = .ok (.getfield 58, 3) := by decide +kernel
theorem dX12_readPiece_104 : decode cX12_readPiece 104 = .ok (.invokevirtual 203, 3) := by decide +kernel
theorem dX12_readPiece_107 : decode cX12_readPiece 107 = .ok (.istore_n 2, 1) := by decide +kernel
theorem dX12_readPiece_108 : decode cX12_readPiece 108 = .ok (.aload_n 0, 1) := by decide +kernel
theorem dX12_readPiece_109 : decode cX12_readPiece 109 = .ok (.getfield 14, 3) := by decide +kernel
theorem dX12_readPiece_112 : decode cX12_readPiece 112 = .ok (.iload_n 2, 1) := by decide +kernel
theorem dX12_readPiece_113 : decode cX12_readPiece 113 = .ok (.aload_n 0, 1) := by decide +kernel
theorem dX12_readPiece_114 : decode cX12_readPiece 114 = .ok (.getfield 90, 3) := by decide +kernel
theorem dX12_readPiece_117 : decode cX12_readPiece 117 = .ok (.iastore, 1) := by decide +kernel
theorem dX12_readPiece_118 : decode cX12_readPiece 118 = .ok (.aload_n 0, 1) := by decide +kernel
theorem dX12_readPiece_119 : decode cX12_readPiece 119 = .ok (.invokevirtual 211, 3) := by decide +kernel
theorem dX12_readPiece_122 : decode cX12_readPiece 122 = .ok (.aload_n 0, 1) := by decide +kernel
theorem dX12_readPiece_123 : decode cX12_readPiece 123 = .ok (.getfield 144, 3) := by decide +kernel
theorem dX12_readPiece_126 : decode cX12_readPiece 126 = .ok (.iload_n 1, 1) := by decide +kernel
theorem dX12_readPiece_127 : decode cX12_readPiece 127 = .ok (.iload_n 2, 1) := by decide +kernel
theorem dX12_readPiece_128 : decode cX12_readPiece 128 = .ok (.iastore, 1) := by decide +kernel
theorem dX12_readPiece_129 : decode cX12_readPiece 129 = .ok (.aload_n 0, 1) := by decide +kernel
theorem dX12_readPiece_130 : decode cX12_readPiece 130 = .ok (.getfield 147, 3) := by decide +kernel
theorem dX12_readPiece_133 : decode cX12_readPiece 133 = .ok (.iload_n 1, 1) := by decide +kernel
theorem dX12_readPiece_134 : decode cX12_readPiece 134 = .ok (.iconst 2, 1) := by decide +kernel
theorem dX12_readPiece_135 : decode cX12_readPiece 135 = .ok (.iastore, 1) := by decide +kernel
theorem dX12_readPiece_136 : decode cX12_readPiece 136 = .ok (.aload_n 0, 1) := by decide +kernel
theorem dX12_readPiece_137 : decode cX12_readPiece 137 = .ok (.iconst 5, 1) := by decide +kernel
theorem dX12_readPiece_138 : decode cX12_readPiece 138 = .ok (.iconst (-1), 1) := by decide +kernel
theorem dX12_readPiece_139 : decode cX12_readPiece 139 = .ok (.iconst 0, 1) := by decide +kernel
theorem dX12_readPiece_140 : decode cX12_readPiece 140 = .ok (.invokevirtual 159, 3) := by decide +kernel
theorem dX12_readPiece_143 : decode cX12_readPiece 143 = .ok (.goto 187, 3) := by decide +kernel
theorem dX12_readPiece_146 : decode cX12_readPiece 146 = .ok (.aload_n 0, 1) := by decide +kernel
theorem dX12_readPiece_147 : decode cX12_readPiece 147 = .ok (.getfield 68, 3) := by decide +kernel
theorem dX12_readPiece_150 : decode cX12_readPiece 150 = .ok (.iconst 2, 1) := by decide +kernel
theorem dX12_readPiece_151 : decode cX12_readPiece 151 = .ok (.if_icmp .ne 170, 3) := by decide +kernel
theorem dX12_readPiece_154 : decode cX12_readPiece 154 = .ok (.aload_n 0, 1) := by decide +kernel
theorem dX12_readPiece_155 : decode cX12_readPiece 155 = .ok (.invokevirtual 218, 3) := by decide +kernel
theorem dX12_readPiece_158 : decode cX12_readPiece 158 = .ok (.iconst (-1), 1) := by decide +kernel
theorem dX12_readPiece_159 : decode cX12_readPiece 159 = .ok (.if_icmp .ne 10, 3) := by decide +kernel
theorem dX12_readPiece_162 : decode cX12_readPiece 162 = .ok (.aload_n 0, 1) := by decide +kernel
theorem dX12_readPiece_163 : decode cX12_readPiece 163 = .ok (.invokevirtual 222, 3) := by decide +kernel
theorem dX12_readPiece_166 : decode cX12_readPiece 166 = .ok (.goto 4, 3) := by decide +kernel
theorem dX12_readPiece_169 : decode cX12_readPiece 169 = .ok (.iconst (-1), 1) := by decide +kernel
theorem dX12_readPiece_170 : decode cX12_readPiece 170 = .ok (.istore_n 2, 1) := by decide +kernel
theorem dX12_readPiece_171 : decode cX12_readPiece 171 = .ok (.aload_n 0, 1) := by decide +kernel
theorem dX12_readPiece_172 : decode cX12_readPiece 172 = .ok (.invokevirtual 218, 3) := by decide +kernel
theorem dX12_readPiece_175 : decode cX12_readPiece 175 = .ok (.iconst (-1), 1) := by decide +kernel
theorem dX12_readPiece_176 : decode cX12_readPiece 176 = .ok (.if_icmp .ne 10, 3) := by decide +kernel
theorem dX12_readPiece_179 : decode cX12_readPiece 179 = .ok (.aload_n 0, 1) := by decide +kernel
theorem dX12_readPiece_180 : decode cX12_readPiece 180 = .ok (.invokevirtual 225, 3) := by decide +kernel
theorem dX12_readPiece_183 : decode cX12_readPiece 183 = .ok (.goto 4, 3) := by decide +kernel
theorem dX12_readPiece_186 : decode cX12_readPiece 186 = .ok (.iconst (-1), 1) := by decide +kernel
theorem dX12_readPiece_187 : decode cX12_readPiece 187 = .ok (.istore_n 3, 1) := by decide +kernel
theorem dX12_readPiece_188 : decode cX12_readPiece 188 = .ok (.iload_n 3, 1) := by decide +kernel
theorem dX12_readPiece_189 : decode cX12_readPiece 189 = .ok (.iconst (-1), 1) := by decide +kernel
theorem dX12_readPiece_190 : decode cX12_readPiece 190 = .ok (.if_icmp .ne 27, 3) := by decide +kernel
theorem dX12_readPiece_193 : decode cX12_readPiece 193 = .ok (.iload_n 2, 1) := by decide +kernel
theorem dX12_readPiece_194 : decode cX12_readPiece 194 = .ok (.iconst (-1), 1) := by decide +kernel
theorem dX12_readPiece_195 : decode cX12_readPiece 195 = .ok (.if_icmp .eq 12, 3) := by decide +kernel
theorem dX12_readPiece_198 : decode cX12_readPiece 198 = .ok (.aload_n 0, 1) := by decide +kernel
theorem dX12_readPiece_199 : decode cX12_readPiece 199 = .ok (.getfield 231, 3) := by decide +kernel
theorem dX12_readPiece_202 : decode cX12_readPiece 202 = .ok (.iload_n 2, 1) := by decide +kernel
theorem dX12_readPiece_203 : decode cX12_readPiece 203 = .ok (.iaload, 1) := by decide +kernel
theorem dX12_readPiece_204 : decode cX12_readPiece 204 = .ok (.ifCond .ne 13, 3) := by decide +kernel
theorem dX12_readPiece_207 : decode cX12_readPiece 207 = .ok (.aload_n 0, 1) := by decide +kernel
theorem dX12_readPiece_208 : decode cX12_readPiece 208 = .ok (.iconst 2, 1) := by decide +kernel
theorem dX12_readPiece_209 : decode cX12_readPiece 209 = .ok (.aload_n 0, 1) := by decide +kernel
theorem dX12_readPiece_210 : decode cX12_readPiece 210 = .ok (.getfield 58, 3) := by decide +kernel
theorem dX12_readPiece_213 : decode cX12_readPiece 213 = .ok (.invokevirtual 237, 3) := by decide +kernel
theorem dX12_readPiece_216 : decode cX12_readPiece 216 = .ok (.return_, 1) := by decide +kernel
theorem dX12_readPiece_217 : decode cX12_readPiece 217 = .ok (.aload_n 0, 1) := by decide +kernel
theorem dX12_readPiece_218 : decode cX12_readPiece 218 = .ok (.iload_n 3, 1) := by decide +kernel
theorem dX12_readPiece_219 : decode cX12_readPiece 219 = .ok (.iconst 4, 1) := by decide +kernel
theorem dX12_readPiece_220 : decode cX12_readPiece 220 = .ok (.if_icmp .ne 8, 3) := by decide +kernel
theorem dX12_readPiece_223 : decode cX12_readPiece 223 = .ok (.bipush 9, 2) := by decide +kernel
theorem dX12_readPiece_225 : decode cX12_readPiece 225 = .ok (.goto 14, 3) := by decide +kernel
theorem dX12_readPiece_228 : decode cX12_readPiece 228 = .ok (.iload_n 3, 1) := by decide +kernel
theorem dX12_readPiece_229 : decode cX12_readPiece 229 = .ok (.ifCond .lt 8, 3) := by decide +kernel
theorem dX12_readPiece_232 : decode cX12_readPiece 232 = .ok (.bipush 13, 2) := by decide +kernel
theorem dX12_readPiece_234 : decode cX12_readPiece 234 = .ok (.goto 5, 3) := by decide +kernel
theorem dX12_readPiece_237 : decode cX12_readPiece 237 = .ok (.bipush 10, 2) := by decide +kernel
theorem dX12_readPiece_239 : decode cX12_readPiece 239 = .ok (.aload_n 0, 1) := by decide +kernel
theorem dX12_readPiece_240 : decode cX12_readPiece 240 = .ok (.getfield 58, 3) := by decide +kernel
theorem dX12_readPiece_243 : decode cX12_readPiece 243 = .ok (.invokevirtual 203, 3) := by decide +kernel
theorem dX12_readPiece_246 : decode cX12_readPiece 246 = .ok (.istore 4, 2) := by decide +kernel
theorem dX12_readPiece_248 : decode cX12_readPiece 248 = .ok (.aload_n 0, 1) := by decide +kernel
theorem dX12_readPiece_249 : decode cX12_readPiece 249 = .ok (.getfield 14, 3) := by decide +kernel
theorem dX12_readPiece_252 : decode cX12_readPiece 252 = .ok (.iload 4, 2) := by decide +kernel
theorem dX12_readPiece_254 : decode cX12_readPiece 254 = .ok (.iload_n 3, 1) := by decide +kernel
theorem dX12_readPiece_255 : decode cX12_readPiece 255 = .ok (.ifCond .lt 7, 3) := by decide +kernel
theorem dX12_readPiece_258 : decode cX12_readPiece 258 = .ok (.iload_n 3, 1) := by decide +kernel
theorem dX12_readPiece_259 : decode cX12_readPiece 259 = .ok (.goto 4, 3) := by decide +kernel
theorem dX12_readPiece_262 : decode cX12_readPiece 262 = .ok (.iload_n 2, 1) := by decide +kernel
theorem dX12_readPiece_263 : decode cX12_readPiece 263 = .ok (.iastore, 1) := by decide +kernel
theorem dX12_readPiece_264 : decode cX12_readPiece 264 = .ok (.aload_n 0, 1) := by decide +kernel
theorem dX12_readPiece_265 : decode cX12_readPiece 265 = .ok (.invokevirtual 211, 3) := by decide +kernel
theorem dX12_readPiece_268 : decode cX12_readPiece 268 = .ok (.aload_n 0, 1) := by decide +kernel
theorem dX12_readPiece_269 : decode cX12_readPiece 269 = .ok (.getfield 144, 3) := by decide +kernel
theorem dX12_readPiece_272 : decode cX12_readPiece 272 = .ok (.iload_n 1, 1) := by decide +kernel
theorem dX12_readPiece_273 : decode cX12_readPiece 273 = .ok (.iload 4, 2) := by decide +kernel
theorem dX12_readPiece_275 : decode cX12_readPiece 275 = .ok (.iastore, 1) := by decide +kernel
theorem dX12_readPiece_276 : decode cX12_readPiece 276 = .ok (.aload_n 0, 1) := by decide +kernel
theorem dX12_readPiece_277 : decode cX12_readPiece 277 = .ok (.getfield 147, 3) := by decide +kernel
theorem dX12_readPiece_280 : decode cX12_readPiece 280 = .ok (.iload_n 1, 1) := by decide +kernel
theorem dX12_readPiece_281 : decode cX12_readPiece 281 = .ok (.iconst 1, 1) := by decide +kernel
theorem dX12_readPiece_282 : decode cX12_readPiece 282 = .ok (.iastore, 1) := by decide +kernel
theorem dX12_readPiece_283 : decode cX12_readPiece 283 = .ok (.aload_n 0, 1) := by decide +kernel
theorem dX12_readPiece_284 : decode cX12_readPiece 284 = .ok (.bipush 6, 2) := by decide +kernel
theorem dX12_readPiece_286 : decode cX12_readPiece 286 = .ok (.iload 4, 2) := by decide +kernel
theorem dX12_readPiece_288 : decode cX12_readPiece 288 = .ok (.iload_n 3, 1) := by decide +kernel
theorem dX12_readPiece_289 : decode cX12_readPiece 289 = .ok (.ifCond .lt 15, 3) := by decide +kernel
theorem dX12_readPiece_292 : decode cX12_readPiece 292 = .ok (.aload_n 0, 1) := by decide +kernel
theorem dX12_readPiece_293 : decode cX12_readPiece 293 = .ok (.getfield 228, 3) := by decide +kernel
theorem dX12_readPiece_296 : decode cX12_readPiece 296 = .ok (.iload_n 3, 1) := by decide +kernel
theorem dX12_readPiece_297 : decode cX12_readPiece 297 = .ok (.iaload, 1) := by decide +kernel
theorem dX12_readPiece_298 : decode cX12_readPiece 298 = .ok (.bipush 10, 2) := by decide +kernel
theorem dX12_readPiece_300 : decode cX12_readPiece 300 = .ok (.idiv, 1) := by decide +kernel
theorem dX12_readPiece_301 : decode cX12_readPiece 301 = .ok (.goto 14, 3) := by decide +kernel
theorem dX12_readPiece_304 : decode cX12_readPiece 304 = .ok (.aload_n 0, 1) := by decide +kernel
theorem dX12_readPiece_305 : decode cX12_readPiece 305 = .ok (.getfield 231, 3) := by decide +kernel
theorem dX12_readPiece_308 : decode cX12_readPiece 308 = .ok (.iload_n 2, 1) := by decide +kernel
theorem dX12_readPiece_309 : decode cX12_readPiece 309 = .ok (.iaload, 1) := by decide +kernel
theorem dX12_readPiece_310 : decode cX12_readPiece 310 = .ok (.iconst 1, 1) := by decide +kernel
theorem dX12_readPiece_311 : decode cX12_readPiece 311 = .ok (.isub, 1) := by decide +kernel
theorem dX12_readPiece_312 : decode cX12_readPiece 312 = .ok (.invokestatic 234, 3) := by decide +kernel
theorem dX12_readPiece_315 : decode cX12_readPiece 315 = .ok (.invokevirtual 159, 3) := by decide +kernel
theorem dX12_readPiece_318 : decode cX12_readPiece 318 = .ok (.goto 12, 3) := by decide +kernel
theorem dX12_readPiece_321 : decode cX12_readPiece 321 = .ok (.aload_n 0, 1) := by decide +kernel
theorem dX12_readPiece_322 : decode cX12_readPiece 322 = .ok (.iconst 1, 1) := by decide +kernel
theorem dX12_readPiece_323 : decode cX12_readPiece 323 = .ok (.aload_n 0, 1) := by decide +kernel
theorem dX12_readPiece_324 : decode cX12_readPiece 324 = .ok (.getfield 58, 3) := by decide +kernel
theorem dX12_readPiece_327 : decode cX12_readPiece 327 = .ok (.invokevirtual 237, 3) := by decide +kernel
theorem dX12_readPiece_330 : decode cX12_readPiece 330 = .ok (.return_, 1) := by decide +kernel
theorem dX12_skip_0 : decode cX12_skip 0 = .ok (.aload_n 0, 1) := by decide +kernel
theorem dX12_skip_1 : decode cX12_skip 1 = .ok (.aload_n 0, 1) := by decide +kernel
theorem dX12_skip_2 : decode cX12_skip 2 = .ok (.getfield 240, 3) := by decide +kernel
theorem dX12_skip_5 : decode cX12_skip 5 = .ok (.invokevirtual 64, 3) := by decide +kernel
theorem dX12_skip_8 : decode cX12_skip 8 = .ok (.bipush 32, 2) := by decide +kernel
theorem dX12_skip_10 : decode cX12_skip 10 = .ok (.if_icmp .ne 16, 3) := by decide +kernel
theorem dX12_skip_13 : decode cX12_skip 13 = .ok (.aload_n 0, 1) := by decide +kernel
theorem dX12_skip_14 : decode cX12_skip 14 = .ok (.dup, 1) := by decide +kernel
theorem dX12_skip_15 : decode cX12_skip 15 = .ok (.getfield 240, 3) := by decide +kernel
theorem dX12_skip_18 : decode cX12_skip 18 = .ok (.iconst 1, 1) := by decide +kernel
theorem dX12_skip_19 : decode cX12_skip 19 = .ok (.iadd, 1) := by decide +kernel
theorem dX12_skip_20 : decode cX12_skip 20 = .ok (.putfield 240, 3) := by decide +kernel
theorem dX12_skip_23 : decode cX12_skip 23 = .ok (.goto (-23), 3) := by decide +kernel
theorem dX12_skip_26 : decode cX12_skip 26 = .ok (.return_, 1) := by decide +kernel
theorem dX12_readSeq_0 : decode cX12_readSeq 0 = .ok (.aload_n 0, 1) := by decide +kernel
theorem dX12_readSeq_1 : decode cX12_readSeq 1 = .ok (.getfield 147, 3) := by decide +kernel
theorem dX12_readSeq_4 : decode cX12_readSeq 4 = .ok (.iload_n 1, 1) := by decide +kernel
theorem dX12_readSeq_5 : decode cX12_readSeq 5 = .ok (.iaload, 1) := by decide +kernel
theorem dX12_readSeq_6 : decode cX12_readSeq 6 = .ok (.ifCond .ne 65, 3) := by decide +kernel
theorem dX12_readSeq_9 : decode cX12_readSeq 9 = .ok (.aload_n 0, 1) := by decide +kernel
theorem dX12_readSeq_10 : decode cX12_readSeq 10 = .ok (.invokevirtual 261, 3) := by decide +kernel
theorem dX12_readSeq_13 : decode cX12_readSeq 13 = .ok (.aload_n 0, 1) := by decide +kernel
theorem dX12_readSeq_14 : decode cX12_readSeq 14 = .ok (.getfield 150, 3) := by decide +kernel
theorem dX12_readSeq_17 : decode cX12_readSeq 17 = .ok (.iload_n 1, 1) := by decide +kernel
theorem dX12_readSeq_18 : decode cX12_readSeq 18 = .ok (.iaload, 1) := by decide +kernel
theorem dX12_readSeq_19 : decode cX12_readSeq 19 = .ok (.ifCond .ne 22, 3) := by decide +kernel
theorem dX12_readSeq_22 : decode cX12_readSeq 22 = .ok (.aload_n 0, 1) := by decide +kernel
theorem dX12_readSeq_23 : decode cX12_readSeq 23 = .ok (.getfield 144, 3) := by decide +kernel
theorem dX12_readSeq_26 : decode cX12_readSeq 26 = .ok (.iload_n 1, 1) := by decide +kernel
theorem dX12_readSeq_27 : decode cX12_readSeq 27 = .ok (.aload_n 0, 1) := by decide +kernel
theorem dX12_readSeq_28 : decode cX12_readSeq 28 = .ok (.bipush 23, 2) := by decide +kernel
theorem dX12_readSeq_30 : decode cX12_readSeq 30 = .ok (.aload_n 0, 1) := by decide +kernel
theorem dX12_readSeq_31 : decode cX12_readSeq 31 = .ok (.getfield 240, 3) := by decide +kernel
theorem dX12_readSeq_34 : decode cX12_readSeq 34 = .ok (.invokevirtual 203, 3) := by decide +kernel
theorem dX12_readSeq_37 : decode cX12_readSeq 37 = .ok (.iastore, 1) := by decide +kernel
theorem dX12_readSeq_38 : decode cX12_readSeq 38 = .ok (.goto 17, 3) := by decide +kernel
theorem dX12_readSeq_41 : decode cX12_readSeq 41 = .ok (.aload_n 0, 1) := by decide +kernel
theorem dX12_readSeq_42 : decode cX12_readSeq 42 = .ok (.getfield 144, 3) := by decide +kernel
theorem dX12_readSeq_45 : decode cX12_readSeq 45 = .ok (.iload_n 1, 1) := by decide +kernel
theorem dX12_readSeq_46 : decode cX12_readSeq 46 = .ok (.aload_n 0, 1) := by decide +kernel
theorem dX12_readSeq_47 : decode cX12_readSeq 47 = .ok (.getfield 150, 3) := by decide +kernel
theorem dX12_readSeq_50 : decode cX12_readSeq 50 = .ok (.iload_n 1, 1) := by decide +kernel
theorem dX12_readSeq_51 : decode cX12_readSeq 51 = .ok (.iaload, 1) := by decide +kernel
theorem dX12_readSeq_52 : decode cX12_readSeq 52 = .ok (.iconst 1, 1) := by decide +kernel
theorem dX12_readSeq_53 : decode cX12_readSeq 53 = .ok (.isub, 1) := by decide +kernel
theorem dX12_readSeq_54 : decode cX12_readSeq 54 = .ok (.iastore, 1) := by decide +kernel
theorem dX12_readSeq_55 : decode cX12_readSeq 55 = .ok (.aload_n 0, 1) := by decide +kernel
theorem dX12_readSeq_56 : decode cX12_readSeq 56 = .ok (.getfield 147, 3) := by decide +kernel
theorem dX12_readSeq_59 : decode cX12_readSeq 59 = .ok (.iload_n 1, 1) := by decide +kernel
theorem dX12_readSeq_60 : decode cX12_readSeq 60 = .ok (.iconst 1, 1) := by decide +kernel
theorem dX12_readSeq_61 : decode cX12_readSeq 61 = .ok (.iastore, 1) := by decide +kernel
theorem dX12_readSeq_62 : decode cX12_readSeq 62 = .ok (.aload_n 0, 1) := by decide +kernel
theorem dX12_readSeq_63 : decode cX12_readSeq 63 = .ok (.bipush 11, 2) := by decide +kernel
theorem dX12_readSeq_65 : decode cX12_readSeq 65 = .ok (.iconst (-1), 1) := by decide +kernel
theorem dX12_readSeq_66 : decode cX12_readSeq 66 = .ok (.iconst 0, 1) := by decide +kernel
theorem dX12_readSeq_67 : decode cX12_readSeq 67 = .ok (.invokevirtual 159, 3) := by decide +kernel
theorem dX12_readSeq_70 : decode cX12_readSeq 70 = .ok (.return_, 1) := by decide +kernel
theorem dX12_readSeq_71 : decode cX12_readSeq 71 = .ok (.aload_n 0, 1) := by decide +kernel
theorem dX12_readSeq_72 : decode cX12_readSeq 72 = .ok (.aload_n 0, 1) := by decide +kernel
theorem dX12_readSeq_73 : decode cX12_readSeq 73 = .ok (.getfield 144, 3) := by decide +kernel
theorem dX12_readSeq_76 : decode cX12_readSeq 76 = .ok (.iload_n 1, 1) := by decide +kernel
theorem dX12_readSeq_77 : decode cX12_readSeq 77 = .ok (.iaload, 1) := by decide +kernel
theorem dX12_readSeq_78 : decode cX12_readSeq 78 = .ok (.aload_n 0, 1) := by decide +kernel
theorem dX12_readSeq_79 : decode cX12_readSeq 79 = .ok (.getfield 153, 3) := by decide +kernel
theorem dX12_readSeq_82 : decode cX12_readSeq 82 = .ok (.invokevirtual 207, 3) := by decide +kernel
theorem dX12_readSeq_85 : decode cX12_readSeq 85 = .ok (.aload_n 0, 1) := by decide +kernel
theorem dX12_readSeq_86 : decode cX12_readSeq 86 = .ok (.aload_n 0, 1) := by decide +kernel
theorem dX12_readSeq_87 : decode cX12_readSeq 87 = .ok (.getfield 240, 3) := by decide +kernel
theorem dX12_readSeq_90 : decode cX12_readSeq 90 = .ok (.iconst 1, 1) := by decide +kernel
theorem dX12_readSeq_91 : decode cX12_readSeq 91 = .ok (.isub, 1) := by decide +kernel
theorem dX12_readSeq_92 : decode cX12_readSeq 92 = .ok (.invokevirtual 64, 3) := by decide +kernel
theorem dX12_readSeq_95 : decode cX12_readSeq 95 = .ok (.bipush 32, 2) := by decide +kernel
theorem dX12_readSeq_97 : decode cX12_readSeq 97 = .ok (.if_icmp .eq 16, 3) := by decide +kernel
theorem dX12_readSeq_100 : decode cX12_readSeq 100 = .ok (.aload_n 0, 1) := by decide +kernel
theorem dX12_readSeq_101 : decode cX12_readSeq 101 = .ok (.aload_n 0, 1) := by decide +kernel
theorem dX12_readSeq_102 : decode cX12_readSeq 102 = .ok (.getfield 240, 3) := by decide +kernel
theorem dX12_readSeq_105 : decode cX12_readSeq 105 = .ok (.invokevirtual 64, 3) := by decide +kernel
theorem dX12_readSeq_108 : decode cX12_readSeq 108 = .ok (.bipush 32, 2) := by decide +kernel
theorem dX12_readSeq_110 : decode cX12_readSeq 110 = .ok (.if_icmp .ne 7, 3) := by decide +kernel
theorem dX12_readSeq_113 : decode cX12_readSeq 113 = .ok (.iconst 1, 1) := by decide +kernel
theorem dX12_readSeq_114 : decode cX12_readSeq 114 = .ok (.goto 4, 3) := by decide +kernel
theorem dX12_readSeq_117 : decode cX12_readSeq 117 = .ok (.iconst 0, 1) := by decide +kernel
theorem dX12_readSeq_118 : decode cX12_readSeq 118 = .ok (.istore_n 2, 1) := by decide +kernel
theorem dX12_readSeq_119 : decode cX12_readSeq 119 = .ok (.aload_n 0, 1) := by decide +kernel
theorem dX12_readSeq_120 : decode cX12_readSeq 120 = .ok (.invokevirtual 261, 3) := by decide +kernel
theorem dX12_readSeq_123 : decode cX12_readSeq 123 = .ok (.aload_n 0, 1) := by decide +kernel
theorem dX12_readSeq_124 : decode cX12_readSeq 124 = .ok (.aload_n 0, 1) := by decide +kernel
theorem dX12_readSeq_125 : decode cX12_readSeq 125 = .ok (.getfield 240, 3) := by decide +kernel
theorem dX12_readSeq_128 : decode cX12_readSeq 128 = .ok (.invokevirtual 64, 3) := by decide +kernel
theorem dX12_readSeq_131 : decode cX12_readSeq 131 = .ok (.istore_n 3, 1) := by decide +kernel
theorem dX12_readSeq_132 : decode cX12_readSeq 132 = .ok (.iload_n 2, 1) := by decide +kernel
theorem dX12_readSeq_133 : decode cX12_readSeq 133 = .ok (.ifCond .eq 56, 3) := by decide +kernel
theorem dX12_readSeq_136 : decode cX12_readSeq 136 = .ok (.iload_n 3, 1) := by decide +kernel
theorem dX12_readSeq_137 : decode cX12_readSeq 137 = .ok (.invokestatic 71, 3) := by decide +kernel
theorem dX12_readSeq_140 : decode cX12_readSeq 140 = .ok (.ifCond .ne 40, 3) := by decide +kernel
theorem dX12_readSeq_143 : decode cX12_readSeq 143 = .ok (.iload_n 3, 1) := by decide +kernel
theorem dX12_readSeq_144 : decode cX12_readSeq 144 = .ok (.invokestatic 78, 3) := by decide +kernel
theorem dX12_readSeq_147 : decode cX12_readSeq 147 = .ok (.ifCond .ne 33, 3) := by decide +kernel
theorem dX12_readSeq_150 : decode cX12_readSeq 150 = .ok (.iload_n 3, 1) := by decide +kernel
theorem dX12_readSeq_151 : decode cX12_readSeq 151 = .ok (.bipush 45, 2) := by decide +kernel
theorem dX12_readSeq_153 : decode cX12_readSeq 153 = .ok (.if_icmp .eq 27, 3) := by decide +kernel
theorem dX12_readSeq_156 : decode cX12_readSeq 156 = .ok (.iload_n 3, 1) := by decide +kernel
theorem dX12_readSeq_157 : decode cX12_readSeq 157 = .ok (.bipush 126, 2) := by decide +kernel
theorem dX12_readSeq_159 : decode cX12_readSeq 159 = .ok (.if_icmp .eq 21, 3) := by decide +kernel
theorem dX12_readSeq_162 : decode cX12_readSeq 162 = .ok (.iload_n 3, 1) := by decide +kernel
theorem dX12_readSeq_163 : decode cX12_readSeq 163 = .ok (.bipush 91, 2) := by decide +kernel
theorem dX12_readSeq_165 : decode cX12_readSeq 165 = .ok (.if_icmp .eq 15, 3) := by decide +kernel
theorem dX12_readSeq_168 : decode cX12_readSeq 168 = .ok (.iload_n 3, 1) := by decide +kernel
theorem dX12_readSeq_169 : decode cX12_readSeq 169 = .ok (.bipush 60, 2) := by decide +kernel
theorem dX12_readSeq_171 : decode cX12_readSeq 171 = .ok (.if_icmp .eq 9, 3) := by decide +kernel
theorem dX12_readSeq_174 : decode cX12_readSeq 174 = .ok (.iload_n 3, 1) := by decide +kernel
theorem dX12_readSeq_175 : decode cX12_readSeq 175 = .ok (.bipush 123, 2) := by decide +kernel
theorem dX12_readSeq_177 : decode cX12_readSeq 177 = .ok (.if_icmp .ne 12, 3) := by decide +kernel
theorem dX12_readSeq_180 : decode cX12_readSeq 180 = .ok (.aload_n 0, 1) := by decide +kernel
theorem dX12_readSeq_181 : decode cX12_readSeq 181 = .ok (.bipush 11, 2) := by decide +kernel
theorem dX12_readSeq_183 : decode cX12_readSeq 183 = .ok (.iconst (-1), 1) := by decide +kernel
theorem dX12_readSeq_184 : decode cX12_readSeq 184 = .ok (.iconst 0, 1) := by decide +kernel
theorem dX12_readSeq_185 : decode cX12_readSeq 185 = .ok (.invokevirtual 159, 3) := by decide +kernel
theorem dX12_readSeq_188 : decode cX12_readSeq 188 = .ok (.return_, 1) := by decide +kernel
theorem dX12_readSeq_189 : decode cX12_readSeq 189 = .ok (.aload_n 0, 1) := by decide +kernel
theorem dX12_readSeq_190 : decode cX12_readSeq 190 = .ok (.aload_n 0, 1) := by decide +kernel
theorem dX12_readSeq_191 : decode cX12_readSeq 191 = .ok (.getfield 144, 3) := by decide +kernel
theorem dX12_readSeq_194 : decode cX12_readSeq 194 = .ok (.iload_n 1, 1) := by decide +kernel
theorem dX12_readSeq_195 : decode cX12_readSeq 195 = .ok (.iaload, 1) := by decide +kernel
theorem dX12_readSeq_196 : decode cX12_readSeq 196 = .ok (.invokevirtual 200, 3) := by decide +kernel
theorem dX12_readSeq_199 : decode cX12_readSeq 199 = .ok (.return_, 1) := by decide +kernel
theorem dX12_plainNumber_0 : decode cX12_plainNumber 0 = .ok (.aload_n 0, 1) := by decide +kernel
theorem dX12_plainNumber_1 : decode cX12_plainNumber 1 = .ok (.invokevirtual 261, 3) := by decide +kernel
theorem dX12_plainNumber_4 : decode cX12_plainNumber 4 = .ok (.aload_n 0, 1) := by decide +kernel
theorem dX12_plainNumber_5 : decode cX12_plainNumber 5 = .ok (.aload_n 0, 1) := by decide +kernel
theorem dX12_plainNumber_6 : decode cX12_plainNumber 6 = .ok (.getfield 240, 3) := by decide +kernel
theorem dX12_plainNumber_9 : decode cX12_plainNumber 9 = .ok (.putfield 58, 3) := by decide +kernel
theorem dX12_plainNumber_12 : decode cX12_plainNumber 12 = .ok (.aload_n 0, 1) := by decide +kernel
theorem dX12_plainNumber_13 : decode cX12_plainNumber 13 = .ok (.aload_n 0, 1) := by decide +kernel
theorem dX12_plainNumber_14 : decode cX12_plainNumber 14 = .ok (.getfield 240, 3) := by decide +kernel
theorem dX12_plainNumber_17 : decode cX12_plainNumber 17 = .ok (.invokevirtual 64, 3) := by decide +kernel
theorem dX12_plainNumber_20 : decode cX12_plainNumber 20 = .ok (.invokestatic 78, 3) := by decide +kernel
theorem dX12_plainNumber_23 : decode cX12_plainNumber 23 = .ok (.ifCond .ne 14, 3) := by decide +kernel
theorem dX12_plainNumber_26 : decode cX12_plainNumber 26 = .ok (.aload_n 0, 1) := by decide +kernel
theorem dX12_plainNumber_27 : decode cX12_plainNumber 27 = .ok (.iconst 1, 1) := by decide +kernel
theorem dX12_plainNumber_28 : decode cX12_plainNumber 28 = .ok (.aload_n 0, 1) := by decide +kernel
theorem dX12_plainNumber_29 : decode cX12_plainNumber 29 = .ok (.getfield 240, 3) := by decide +kernel
theorem dX12_plainNumber_32 : decode cX12_plainNumber 32 = .ok (.invokevirtual 237, 3) := by decide +kernel
theorem dX12_plainNumber_35 : decode cX12_plainNumber 35 = .ok (.iconst 0, 1) := by decide +kernel
theorem dX12_plainNumber_36 : decode cX12_plainNumber 36 = .ok (.ireturn, 1) := by decide +kernel
theorem dX12_plainNumber_37 : decode cX12_plainNumber 37 = .ok (.iconst 0, 1) := by decide +kernel
theorem dX12_plainNumber_38 : decode cX12_plainNumber 38 = .ok (.istore_n 1, 1) := by decide +kernel
theorem dX12_plainNumber_39 : decode cX12_plainNumber 39 = .ok (.iconst 0, 1) := by decide +kernel
theorem dX12_plainNumber_40 : decode cX12_plainNumber 40 = .ok (.istore_n 2, 1) := by decide +kernel
theorem dX12_plainNumber_41 : decode cX12_plainNumber 41 = .ok (.aload_n 0, 1) := by decide +kernel
theorem dX12_plainNumber_42 : decode cX12_plainNumber 42 = .ok (.aload_n 0, 1) := by decide +kernel
theorem dX12_plainNumber_43 : decode cX12_plainNumber 43 = .ok (.getfield 240, 3) := by decide +kernel
theorem dX12_plainNumber_46 : decode cX12_plainNumber 46 = .ok (.invokevirtual 64, 3) := by decide +kernel
theorem dX12_plainNumber_49 : decode cX12_plainNumber 49 = .ok (.invokestatic 78, 3) := by decide +kernel
theorem dX12_plainNumber_52 : decode cX12_plainNumber 52 = .ok (.ifCond .eq 52, 3) := by decide +kernel
theorem dX12_plainNumber_55 : decode cX12_plainNumber 55 = .ok (.iload_n 2, 1) := by decide +kernel
theorem dX12_plainNumber_56 : decode cX12_plainNumber 56 = .ok (.iconst 4, 1) := by decide +kernel
theorem dX12_plainNumber_57 : decode cX12_plainNumber 57 = .ok (.if_icmp .ne 14, 3) := by decide +kernel
theorem dX12_plainNumber_60 : decode cX12_plainNumber 60 = .ok (.aload_n 0, 1) := by decide +kernel
theorem dX12_plainNumber_61 : decode cX12_plainNumber 61 = .ok (.iconst 1, 1) := by decide +kernel
theorem dX12_plainNumber_62 : decode cX12_plainNumber 62 = .ok (.aload_n 0, 1) := by decide +kernel
theorem dX12_plainNumber_63 : decode cX12_plainNumber 63 = .ok (.getfield 240, 3) := by decide +kernel
theorem dX12_plainNumber_66 : decode cX12_plainNumber 66 = .ok (.invokevirtual 237, 3) := by decide +kernel
theorem dX12_plainNumber_69 : decode cX12_plainNumber 69 = .ok (.iconst 0, 1) := by decide +kernel
theorem dX12_plainNumber_70 : decode cX12_plainNumber 70 = .ok (.ireturn, 1) := by decide +kernel
theorem dX12_plainNumber_71 : decode cX12_plainNumber 71 = .ok (.bipush 10, 2) := by decide +kernel
theorem dX12_plainNumber_73 : decode cX12_plainNumber 73 = .ok (.iload_n 1, 1) := by decide +kernel
theorem dX12_plainNumber_74 : decode cX12_plainNumber 74 = .ok (.imul, 1) := by decide +kernel
theorem dX12_plainNumber_75 : decode cX12_plainNumber 75 = .ok (.aload_n 0, 1) := by decide +kernel
theorem dX12_plainNumber_76 : decode cX12_plainNumber 76 = .ok (.aload_n 0, 1) := by decide +kernel
theorem dX12_plainNumber_77 : decode cX12_plainNumber 77 = .ok (.getfield 240, 3) := by decide +kernel
theorem dX12_plainNumber_80 : decode cX12_plainNumber 80 = .ok (.invokevirtual 64, 3) := by decide +kernel
theorem dX12_plainNumber_83 : decode cX12_plainNumber 83 = .ok (.iadd, 1) := by decide +kernel
theorem dX12_plainNumber_84 : decode cX12_plainNumber 84 = .ok (.bipush 48, 2) := by decide +kernel
theorem dX12_plainNumber_86 : decode cX12_plainNumber 86 = .ok (.isub, 1) := by decide +kernel
theorem dX12_plainNumber_87 : decode cX12_plainNumber 87 = .ok (.istore_n 1, 1) := by decide +kernel
theorem dX12_plainNumber_88 : decode cX12_plainNumber 88 = .ok (.iinc 2 1, 3) := by decide +kernel
theorem dX12_plainNumber_91 : decode cX12_plainNumber 91 = .ok (.aload_n 0, 1) := by decide +kernel
theorem dX12_plainNumber_92 : decode cX12_plainNumber 92 = .ok (.dup, 1) := by decide +kernel
theorem dX12_plainNumber_93 : decode cX12_plainNumber 93 = .ok (.getfield 240, 3) := by decide +kernel
theorem dX12_plainNumber_96 : decode cX12_plainNumber 96 = .ok (.iconst 1, 1) := by decide +kernel
theorem dX12_plainNumber_97 : decode cX12_plainNumber 97 = .ok (.iadd, 1) := by decide +kernel
theorem dX12_plainNumber_98 : decode cX12_plainNumber 98 = .ok (.putfield 240, 3) := by decide +kernel
theorem dX12_plainNumber_101 : decode cX12_plainNumber 101 = .ok (.goto (-60), 3) := by decide +kernel
theorem dX12_plainNumber_104 : decode cX12_plainNumber 104 = .ok (.iload_n 1, 1) := by decide +kernel
theorem dX12_plainNumber_105 : decode cX12_plainNumber 105 = .ok (.ireturn, 1) := by decide +kernel
theorem dX12_numberIn_0 : decode cX12_numberIn 0 = .ok (.aload_n 0, 1) := by decide +kernel
theorem dX12_numberIn_1 : decode cX12_numberIn 1 = .ok (.invokevirtual 264, 3) := by decide +kernel
theorem dX12_numberIn_4 : decode cX12_numberIn 4 = .ok (.istore_n 3, 1) := by decide +kernel
theorem dX12_numberIn_5 : decode cX12_numberIn 5 = .ok (.aload_n 0, 1) := by decide +kernel
theorem dX12_numberIn_6 : decode cX12_numberIn 6 = .ok (.getfield 41, 3) := by decide +kernel
theorem dX12_numberIn_9 : decode cX12_numberIn 9 = .ok (.ifCond .ne 22, 3) := by decide +kernel
theorem dX12_numberIn_12 : decode cX12_numberIn 12 = .ok (.iload_n 3, 1) := by decide +kernel
theorem dX12_numberIn_13 : decode cX12_numberIn 13 = .ok (.iload_n 1, 1) := by decide +kernel
theorem dX12_numberIn_14 : decode cX12_numberIn 14 = .ok (.if_icmp .lt 8, 3) := by decide +kernel
theorem dX12_numberIn_17 : decode cX12_numberIn 17 = .ok (.iload_n 3, 1) := by decide +kernel
theorem dX12_numberIn_18 : decode cX12_numberIn 18 = .ok (.iload_n 2, 1) := by decide +kernel
theorem dX12_numberIn_19 : decode cX12_numberIn 19 = .ok (.if_icmp .le 12, 3) := by decide +kernel
theorem dX12_numberIn_22 : decode cX12_numberIn 22 = .ok (.aload_n 0, 1) := by decide +kernel
theorem dX12_numberIn_23 : decode cX12_numberIn 23 = .ok (.iconst 3, 1) := by decide +kernel
theorem dX12_numberIn_24 : decode cX12_numberIn 24 = .ok (.aload_n 0, 1) := by decide +kernel
theorem dX12_numberIn_25 : decode cX12_numberIn 25 = .ok (.getfield 58, 3) := by decide +kernel
theorem dX12_numberIn_28 : decode cX12_numberIn 28 = .ok (.invokevirtual 237, 3) := by decide +kernel
theorem dX12_numberIn_31 : decode cX12_numberIn 31 = .ok (.iload_n 3, 1) := by decide +kernel
theorem dX12_numberIn_32 : decode cX12_numberIn 32 = .ok (.ireturn, 1) := by decide +kernel
theorem dX12_readStep_0 : decode cX12_readStep 0 = .ok (.aload_n 0, 1) := by decide +kernel
theorem dX12_readStep_1 : decode cX12_readStep 1 = .ok (.getfield 147, 3) := by decide +kernel
theorem dX12_readStep_4 : decode cX12_readStep 4 = .ok (.iload_n 1, 1) := by decide +kernel
theorem dX12_readStep_5 : decode cX12_readStep 5 = .ok (.iaload, 1) := by decide +kernel
theorem dX12_readStep_6 : decode cX12_readStep 6 = .ok (.ifCond .ne 19, 3) := by decide +kernel
theorem dX12_readStep_9 : decode cX12_readStep 9 = .ok (.aload_n 0, 1) := by decide +kernel
theorem dX12_readStep_10 : decode cX12_readStep 10 = .ok (.getfield 147, 3) := by decide +kernel
theorem dX12_readStep_13 : decode cX12_readStep 13 = .ok (.iload_n 1, 1) := by decide +kernel
theorem dX12_readStep_14 : decode cX12_readStep 14 = .ok (.iconst 1, 1) := by decide +kernel
theorem dX12_readStep_15 : decode cX12_readStep 15 = .ok (.iastore, 1) := by decide +kernel
theorem dX12_readStep_16 : decode cX12_readStep 16 = .ok (.aload_n 0, 1) := by decide +kernel
theorem dX12_readStep_17 : decode cX12_readStep 17 = .ok (.bipush 12, 2) := by decide +kernel
theorem dX12_readStep_19 : decode cX12_readStep 19 = .ok (.iconst (-1), 1) := by decide +kernel
theorem dX12_readStep_20 : decode cX12_readStep 20 = .ok (.iconst 0, 1) := by decide +kernel
theorem dX12_readStep_21 : decode cX12_readStep 21 = .ok (.invokevirtual 159, 3) := by decide +kernel
theorem dX12_readStep_24 : decode cX12_readStep 24 = .ok (.return_, 1) := by decide +kernel
theorem dX12_readStep_25 : decode cX12_readStep 25 = .ok (.aload_n 0, 1) := by decide +kernel
theorem dX12_readStep_26 : decode cX12_readStep 26 = .ok (.getfield 153, 3) := by decide +kernel
theorem dX12_readStep_29 : decode cX12_readStep 29 = .ok (.istore_n 2, 1) := by decide +kernel
theorem dX12_readStep_30 : decode cX12_readStep 30 = .ok (.iconst 1, 1) := by decide +kernel
theorem dX12_readStep_31 : decode cX12_readStep 31 = .ok (.istore_n 3, 1) := by decide +kernel
theorem dX12_readStep_32 : decode cX12_readStep 32 = .ok (.iload_n 3, 1) := by decide +kernel
theorem dX12_readStep_33 : decode cX12_readStep 33 = .ok (.ifCond .eq 88, 3) := by decide +kernel
theorem dX12_readStep_36 : decode cX12_readStep 36 = .ok (.aload_n 0, 1) := by decide +kernel
theorem dX12_readStep_37 : decode cX12_readStep 37 = .ok (.getfield 41, 3) := by decide +kernel
theorem dX12_readStep_40 : decode cX12_readStep 40 = .ok (.ifCond .ne 81, 3) := by decide +kernel
theorem dX12_readStep_43 : decode cX12_readStep 43 = .ok (.aload_n 0, 1) := by decide +kernel
theorem dX12_readStep_44 : decode cX12_readStep 44 = .ok (.getfield 240, 3) := by decide +kernel
theorem dX12_readStep_47 : decode cX12_readStep 47 = .ok (.istore 4, 2) := by decide +kernel
theorem dX12_readStep_49 : decode cX12_readStep 49 = .ok (.aload_n 0, 1) := by decide +kernel
theorem dX12_readStep_50 : decode cX12_readStep 50 = .ok (.invokevirtual 261, 3) := by decide +kernel
theorem dX12_readStep_53 : decode cX12_readStep 53 = .ok (.aload_n 0, 1) := by decide +kernel
theorem dX12_readStep_54 : decode cX12_readStep 54 = .ok (.aload_n 0, 1) := by decide +kernel
theorem dX12_readStep_55 : decode cX12_readStep 55 = .ok (.getfield 240, 3) := by decide +kernel
theorem dX12_readStep_58 : decode cX12_readStep 58 = .ok (.invokevirtual 64, 3) := by decide +kernel
theorem dX12_readStep_61 : decode cX12_readStep 61 = .ok (.istore 5, 2) := by decide +kernel
theorem dX12_readStep_63 : decode cX12_readStep 63 = .ok (.iload 5, 2) := by decide +kernel
theorem dX12_readStep_65 : decode cX12_readStep 65 = .ok (.bipush 42, 2) := by decide +kernel
theorem dX12_readStep_67 : decode cX12_readStep 67 = .ok (.if_icmp .eq 24, 3) := by decide +kernel
theorem dX12_readStep_70 : decode cX12_readStep 70 = .ok (.iload 5, 2) := by decide +kernel
theorem dX12_readStep_72 : decode cX12_readStep 72 = .ok (.bipush 47, 2) := by decide +kernel
theorem dX12_readStep_74 : decode cX12_readStep 74 = .ok (.if_icmp .eq 17, 3) := by decide +kernel
theorem dX12_readStep_77 : decode cX12_readStep 77 = .ok (.iload 5, 2) := by decide +kernel
theorem dX12_readStep_79 : decode cX12_readStep 79 = .ok (.bipush 40, 2) := by decide +kernel
theorem dX12_readStep_81 : decode cX12_readStep 81 = .ok (.if_icmp .eq 10, 3) := by decide +kernel
theorem dX12_readStep_84 : decode cX12_readStep 84 = .ok (.iload 5, 2) := by decide +kernel
theorem dX12_readStep_86 : decode cX12_readStep 86 = .ok (.bipush 63, 2) := by decide +kernel
theorem dX12_readStep_88 : decode cX12_readStep 88 = .ok (.if_icmp .ne 7, 3) := by decide +kernel
theorem dX12_readStep_91 : decode cX12_readStep 91 = .ok (.iconst 1, 1) := by decide +kernel
theorem dX12_readStep_92 : decode cX12_readStep 92 = .ok (.goto 4, 3) := by decide +kernel
theorem dX12_readStep_95 : decode cX12_readStep 95 = .ok (.iconst 0, 1) := by decide +kernel
theorem dX12_readStep_96 : decode cX12_readStep 96 = .ok (.istore_n 3, 1) := by decide +kernel
theorem dX12_readStep_97 : decode cX12_readStep 97 = .ok (.iload_n 3, 1) := by decide +kernel
theorem dX12_readStep_98 : decode cX12_readStep 98 = .ok (.ifCond .eq 14, 3) := by decide +kernel
theorem dX12_readStep_101 : decode cX12_readStep 101 = .ok (.aload_n 0, 1) := by decide +kernel
theorem dX12_readStep_102 : decode cX12_readStep 102 = .ok (.iload 5, 2) := by decide +kernel
theorem dX12_readStep_104 : decode cX12_readStep 104 = .ok (.iload_n 2, 1) := by decide +kernel
theorem dX12_readStep_105 : decode cX12_readStep 105 = .ok (.invokevirtual 267, 3) := by decide +kernel
theorem dX12_readStep_108 : decode cX12_readStep 108 = .ok (.istore_n 2, 1) := by decide +kernel
theorem dX12_readStep_109 : decode cX12_readStep 109 = .ok (.goto 9, 3) := by decide +kernel
theorem dX12_readStep_112 : decode cX12_readStep 112 = .ok (.aload_n 0, 1) := by decide +kernel
theorem dX12_readStep_113 : decode cX12_readStep 113 = .ok (.iload 4, 2) := by decide +kernel
theorem dX12_readStep_115 : decode cX12_readStep 115 = .ok (.putfield 240, 3) := by decide +kernel
theorem dX12_readStep_118 : decode cX12_readStep 118 = .ok (.goto (-86), 3) := by decide +kernel
theorem dX12_readStep_121 : decode cX12_readStep 121 = .ok (.aload_n 0, 1) := by decide +kernel
theorem dX12_readStep_122 : decode cX12_readStep 122 = .ok (.bipush 24, 2) := by decide +kernel
theorem dX12_readStep_124 : decode cX12_readStep 124 = .ok (.aload_n 0, 1) := by decide +kernel
theorem dX12_readStep_125 : decode cX12_readStep 125 = .ok (.getfield 11, 3) := by decide +kernel
theorem dX12_readStep_128 : decode cX12_readStep 128 = .ok (.iload_n 2, 1) := by decide +kernel
theorem dX12_readStep_129 : decode cX12_readStep 129 = .ok (.iaload, 1) := by decide +kernel
theorem dX12_readStep_130 : decode cX12_readStep 130 = .ok (.invokevirtual 203, 3) := by decide +kernel
theorem dX12_readStep_133 : decode cX12_readStep 133 = .ok (.istore 4, 2) := by decide +kernel
theorem dX12_readStep_135 : decode cX12_readStep 135 = .ok (.aload_n 0, 1) := by decide +kernel
theorem dX12_readStep_136 : decode cX12_readStep 136 = .ok (.getfield 14, 3) := by decide +kernel
theorem dX12_readStep_139 : decode cX12_readStep 139 = .ok (.iload 4, 2) := by decide +kernel
theorem dX12_readStep_141 : decode cX12_readStep 141 = .ok (.iconst 1, 1) := by decide +kernel
theorem dX12_readStep_142 : decode cX12_readStep 142 = .ok (.iastore, 1) := by decide +kernel
theorem dX12_readStep_143 : decode cX12_readStep 143 = .ok (.aload_n 0, 1) := by decide +kernel
theorem dX12_readStep_144 : decode cX12_readStep 144 = .ok (.getfield 17, 3) := by decide +kernel
theorem dX12_readStep_147 : decode cX12_readStep 147 = .ok (.iload 4, 2) := by decide +kernel
theorem dX12_readStep_149 : decode cX12_readStep 149 = .ok (.iconst 1, 1) := by decide +kernel
theorem dX12_readStep_150 : decode cX12_readStep 150 = .ok (.iastore, 1) := by decide +kernel
theorem dX12_readStep_151 : decode cX12_readStep 151 = .ok (.aload_n 0, 1) := by decide +kernel
theorem dX12_readStep_152 : decode cX12_readStep 152 = .ok (.iload 4, 2) := by decide +kernel
theorem dX12_readStep_154 : decode cX12_readStep 154 = .ok (.iload_n 2, 1) := by decide +kernel
theorem dX12_readStep_155 : decode cX12_readStep 155 = .ok (.invokevirtual 207, 3) := by decide +kernel
theorem dX12_readStep_158 : decode cX12_readStep 158 = .ok (.iconst 0, 1) := by decide +kernel
theorem dX12_readStep_159 : decode cX12_readStep 159 = .ok (.istore 5, 2) := by decide +kernel
theorem dX12_readStep_161 : decode cX12_readStep 161 = .ok (.iload 5, 2) := by decide +kernel
theorem dX12_readStep_163 : decode cX12_readStep 163 = .ok (.iconst 2, 1) := by decide +kernel
theorem dX12_readStep_164 : decode cX12_readStep 164 = .ok (.if_icmp .ge 103, 3) := by decide +kernel
theorem dX12_readStep_167 : decode cX12_readStep 167 = .ok (.aload_n 0, 1) := by decide +kernel
theorem dX12_readStep_168 : decode cX12_readStep 168 = .ok (.getfield 41, 3) := by decide +kernel
theorem dX12_readStep_171 : decode cX12_readStep 171 = .ok (.ifCond .ne 96, 3) := by decide +kernel
theorem dX12_readStep_174 : decode cX12_readStep 174 = .ok (.aload_n 0, 1) := by decide +kernel
theorem dX12_readStep_175 : decode cX12_readStep 175 = .ok (.getfield 240, 3) := by decide +kernel
theorem dX12_readStep_178 : decode cX12_readStep 178 = .ok (.istore 6, 2) := by decide +kernel
theorem dX12_readStep_180 : decode cX12_readStep 180 = .ok (.aload_n 0, 1) := by decide +kernel
theorem dX12_readStep_181 : decode cX12_readStep 181 = .ok (.invokevirtual 261, 3) := by decide +kernel
theorem dX12_readStep_184 : decode cX12_readStep 184 = .ok (.aload_n 0, 1) := by decide +kernel
theorem dX12_readStep_185 : decode cX12_readStep 185 = .ok (.aload_n 0, 1) := by decide +kernel
theorem dX12_readStep_186 : decode cX12_readStep 186 = .ok (.getfield 240, 3) := by decide +kernel
theorem dX12_readStep_189 : decode cX12_readStep 189 = .ok (.invokevirtual 64, 3) := by decide +kernel
theorem dX12_readStep_192 : decode cX12_readStep 192 = .ok (.iload 5, 2) := by decide +kernel
theorem dX12_readStep_194 : decode cX12_readStep 194 = .ok (.ifCond .ne 8, 3) := by decide +kernel
theorem dX12_readStep_197 : decode cX12_readStep 197 = .ok (.bipush 64, 2) := by decide +kernel
theorem dX12_readStep_199 : decode cX12_readStep 199 = .ok (.goto 5, 3) := by decide +kernel
theorem dX12_readStep_202 : decode cX12_readStep 202 = .ok (.bipush 33, 2) := by decide +kernel
theorem dX12_readStep_204 : decode cX12_readStep 204 = .ok (.if_icmp .eq 12, 3) := by decide +kernel
theorem dX12_readStep_207 : decode cX12_readStep 207 = .ok (.aload_n 0, 1) := by decide +kernel
theorem dX12_readStep_208 : decode cX12_readStep 208 = .ok (.iload 6, 2) := by decide +kernel
theorem dX12_readStep_210 : decode cX12_readStep 210 = .ok (.putfield 240, 3) := by decide +kernel
theorem dX12_readStep_213 : decode cX12_readStep 213 = .ok (.goto 48, 3) := by decide +kernel
theorem dX12_readStep_216 : decode cX12_readStep 216 = .ok (.aload_n 0, 1) := by decide +kernel
theorem dX12_readStep_217 : decode cX12_readStep 217 = .ok (.dup, 1) := by decide +kernel
theorem dX12_readStep_218 : decode cX12_readStep 218 = .ok (.getfield 240, 3) := by decide +kernel
theorem dX12_readStep_221 : decode cX12_readStep 221 = .ok (.iconst 1, 1) := by decide +kernel
theorem dX12_readStep_222 : decode cX12_readStep 222 = .ok (.iadd, 1) := by decide +kernel
theorem dX12_readStep_223 : decode cX12_readStep 223 = .ok (.putfield 240, 3) := by decide +kernel
theorem dX12_readStep_226 : decode cX12_readStep 226 = .ok (.aload_n 0, 1) := by decide +kernel
theorem dX12_readStep_227 : decode cX12_readStep 227 = .ok (.iconst 1, 1) := by decide +kernel
theorem dX12_readStep_228 : decode cX12_readStep 228 = .ok (.bipush 16, 2) := by decide +kernel
theorem dX12_readStep_230 : decode cX12_readStep 230 = .ok (.invokevirtual 270, 3) := by decide +kernel
theorem dX12_readStep_233 : decode cX12_readStep 233 = .ok (.istore 7, 2) := by decide +kernel
theorem dX12_readStep_235 : decode cX12_readStep 235 = .ok (.iload 5, 2) := by decide +kernel
theorem dX12_readStep_237 : decode cX12_readStep 237 = .ok (.ifCond .ne 15, 3) := by decide +kernel
theorem dX12_readStep_240 : decode cX12_readStep 240 = .ok (.aload_n 0, 1) := by decide +kernel
theorem dX12_readStep_241 : decode cX12_readStep 241 = .ok (.getfield 14, 3) := by decide +kernel
theorem dX12_readStep_244 : decode cX12_readStep 244 = .ok (.iload 4, 2) := by decide +kernel
theorem dX12_readStep_246 : decode cX12_readStep 246 = .ok (.iload 7, 2) := by decide +kernel
theorem dX12_readStep_248 : decode cX12_readStep 248 = .ok (.iastore, 1) := by decide +kernel
theorem dX12_readStep_249 : decode cX12_readStep 249 = .ok (.goto 12, 3) := by decide +kernel
theorem dX12_readStep_252 : decode cX12_readStep 252 = .ok (.aload_n 0, 1) := by decide +kernel
theorem dX12_readStep_253 : decode cX12_readStep 253 = .ok (.getfield 17, 3) := by decide +kernel
theorem dX12_readStep_256 : decode cX12_readStep 256 = .ok (.iload 4, 2) := by decide +kernel
theorem dX12_readStep_258 : decode cX12_readStep 258 = .ok (.iload 7, 2) := by decide +kernel
theorem dX12_readStep_260 : decode cX12_readStep 260 = .ok (.iastore, 1) := by decide +kernel
theorem dX12_readStep_261 : decode cX12_readStep 261 = .ok (.iinc 5 1, 3) := by decide +kernel
theorem dX12_readStep_264 : decode cX12_readStep 264 = .ok (.goto (-103), 3) := by decide +kernel
theorem dX12_readStep_267 : decode cX12_readStep 267 = .ok (.aload_n 0, 1) := by decide +kernel
theorem dX12_readStep_268 : decode cX12_readStep 268 = .ok (.iload 4, 2) := by decide +kernel
theorem dX12_readStep_270 : decode cX12_readStep 270 = .ok (.invokevirtual 200, 3) := by decide +kernel
theorem dX12_readStep_273 : decode cX12_readStep 273 = .ok (.return_, 1) := by decide +kernel
theorem dX12_readChange_0 : decode cX12_readChange 0 = .ok (.aload_n 0, 1) := by decide +kernel
theorem dX12_readChange_1 : decode cX12_readChange 1 = .ok (.getfield 240, 3) := by decide +kernel
theorem dX12_readChange_4 : decode cX12_readChange 4 = .ok (.istore_n 3, 1) := by decide +kernel
theorem dX12_readChange_5 : decode cX12_readChange 5 = .ok (.aload_n 0, 1) := by decide +kernel
theorem dX12_readChange_6 : decode cX12_readChange 6 = .ok (.dup, 1) := by decide +kernel
theorem dX12_readChange_7 : decode cX12_readChange 7 = .ok (.getfield 240, 3) := by decide +kernel
theorem dX12_readChange_10 : decode cX12_readChange 10 = .ok (.iconst 1, 1) := by decide +kernel
theorem dX12_readChange_11 : decode cX12_readChange 11 = .ok (.iadd, 1) := by decide +kernel
theorem dX12_readChange_12 : decode cX12_readChange 12 = .ok (.putfield 240, 3) := by decide +kernel
theorem dX12_readChange_15 : decode cX12_readChange 15 = .ok (.iload_n 1, 1) := by decide +kernel
theorem dX12_readChange_16 : decode cX12_readChange 16 = .ok (.bipush 63, 2) := by decide +kernel
theorem dX12_readChange_18 : decode cX12_readChange 18 = .ok (.if_icmp .ne 36, 3) := by decide +kernel
theorem dX12_readChange_21 : decode cX12_readChange 21 = .ok (.aload_n 0, 1) := by decide +kernel
theorem dX12_readChange_22 : decode cX12_readChange 22 = .ok (.bipush 31, 2) := by decide +kernel
theorem dX12_readChange_24 : decode cX12_readChange 24 = .ok (.iload_n 3, 1) := by decide +kernel
theorem dX12_readChange_25 : decode cX12_readChange 25 = .ok (.invokevirtual 203, 3) := by decide +kernel
theorem dX12_readChange_28 : decode cX12_readChange 28 = .ok (.istore 4, 2) := by decide +kernel
theorem dX12_readChange_30 : decode cX12_readChange 30 = .ok (.aload_n 0, 1) := by decide +kernel
theorem dX12_readChange_31 : decode cX12_readChange 31 = .ok (.getfield 14, 3) := by decide +kernel
theorem dX12_readChange_34 : decode cX12_readChange 34 = .ok (.iload 4, 2) := by decide +kernel
theorem dX12_readChange_36 : decode cX12_readChange 36 = .ok (.aload_n 0, 1) := by decide +kernel
theorem dX12_readChange_37 : decode cX12_readChange 37 = .ok (.getfield 246, 3) := by decide +kernel
theorem dX12_readChange_40 : decode cX12_readChange 40 = .ok (.iastore, 1) := by decide +kernel
theorem dX12_readChange_41 : decode cX12_readChange 41 = .ok (.aload_n 0, 1) := by decide +kernel
theorem dX12_readChange_42 : decode cX12_readChange 42 = .ok (.dup, 1) := by decide +kernel
theorem dX12_readChange_43 : decode cX12_readChange 43 = .ok (.getfield 246, 3) := by decide +kernel
theorem dX12_readChange_46 : decode cX12_readChange 46 = .ok (.iconst 1, 1) := by decide +kernel
theorem dX12_readChange_47 : decode cX12_readChange 47 = .ok (.iadd, 1) := by decide +kernel
theorem dX12_readChange_48 : decode cX12_readChange 48 = .ok (.putfield 246, 3) := by decide +kernel
theorem dX12_readChange_51 : decode cX12_readChange 51 = .ok (.goto 81, 3) := by decide +kernel
theorem dX12_readChange_54 : decode cX12_readChange 54 = .ok (.iload_n 1, 1) := by decide +kernel
theorem dX12_readChange_55 : decode cX12_readChange 55 = .ok (.bipush 40, 2) := by decide +kernel
theorem dX12_readChange_57 : decode cX12_readChange 57 = .ok (.if_icmp .ne 41, 3) := by decide +kernel
theorem dX12_readChange_60 : decode cX12_readChange 60 = .ok (.aload_n 0, 1) := by decide +kernel
theorem dX12_readChange_61 : decode cX12_readChange 61 = .ok (.iload_n 3, 1) := by decide +kernel
theorem dX12_readChange_62 : decode cX12_readChange 62 = .ok (.invokevirtual 243, 3) := by decide +kernel
theorem dX12_readChange_65 : decode cX12_readChange 65 = .ok (.ifCond .ne 5, 3) := by decide +kernel
theorem dX12_readChange_68 : decode cX12_readChange 68 = .ok (.iload_n 2, 1) := by decide +kernel
theorem dX12_readChange_69 : decode cX12_readChange 69 = .ok (.ireturn, 1) := by decide +kernel
theorem dX12_readChange_70 : decode cX12_readChange 70 = .ok (.aload_n 0, 1) := by decide +kernel
theorem dX12_readChange_71 : decode cX12_readChange 71 = .ok (.bipush 30, 2) := by decide +kernel
theorem dX12_readChange_73 : decode cX12_readChange 73 = .ok (.iload_n 3, 1) := by decide +kernel
theorem dX12_readChange_74 : decode cX12_readChange 74 = .ok (.invokevirtual 203, 3) := by decide +kernel
theorem dX12_readChange_77 : decode cX12_readChange 77 = .ok (.istore 4, 2) := by decide +kernel
theorem dX12_readChange_79 : decode cX12_readChange 79 = .ok (.aload_n 0, 1) := by decide +kernel
theorem dX12_readChange_80 : decode cX12_readChange 80 = .ok (.iload 4, 2) := by decide +kernel
theorem dX12_readChange_82 : decode cX12_readChange 82 = .ok (.invokevirtual 273, 3) := by decide +kernel
theorem dX12_readChange_85 : decode cX12_readChange 85 = .ok (.aload_n 0, 1) := by decide +kernel
theorem dX12_readChange_86 : decode cX12_readChange 86 = .ok (.dup, 1) := by decide +kernel
theorem dX12_readChange_87 : decode cX12_readChange 87 = .ok (.getfield 156, 3) := by decide +kernel
theorem dX12_readChange_90 : decode cX12_readChange 90 = .ok (.iconst 1, 1) := by decide +kernel
theorem dX12_readChange_91 : decode cX12_readChange 91 = .ok (.isub, 1) := by decide +kernel
theorem dX12_readChange_92 : decode cX12_readChange 92 = .ok (.putfield 156, 3) := by decide +kernel
theorem dX12_readChange_95 : decode cX12_readChange 95 = .ok (.goto 37, 3) := by decide +kernel
theorem dX12_readChange_98 : decode cX12_readChange 98 = .ok (.aload_n 0, 1) := by decide +kernel
theorem dX12_readChange_99 : decode cX12_readChange 99 = .ok (.iload_n 1, 1) := by decide +kernel
theorem dX12_readChange_100 : decode cX12_readChange 100 = .ok (.bipush 42, 2) := by decide +kernel
theorem dX12_readChange_102 : decode cX12_readChange 102 = .ok (.if_icmp .ne 8, 3) := by decide +kernel
theorem dX12_readChange_105 : decode cX12_readChange 105 = .ok (.bipush 28, 2) := by decide +kernel
theorem dX12_readChange_107 : decode cX12_readChange 107 = .ok (.goto 5, 3) := by decide +kernel
theorem dX12_readChange_110 : decode cX12_readChange 110 = .ok (.bipush 29, 2) := by decide +kernel
theorem dX12_readChange_112 : decode cX12_readChange 112 = .ok (.iload_n 3, 1) := by decide +kernel
theorem dX12_readChange_113 : decode cX12_readChange 113 = .ok (.invokevirtual 203, 3) := by decide +kernel
theorem dX12_readChange_116 : decode cX12_readChange 116 = .ok (.istore 4, 2) := by decide +kernel
theorem dX12_readChange_118 : decode cX12_readChange 118 = .ok (.aload_n 0, 1) := by decide +kernel
theorem dX12_readChange_119 : decode cX12_readChange 119 = .ok (.getfield 14, 3) := by decide +kernel
theorem dX12_readChange_122 : decode cX12_readChange 122 = .ok (.iload 4, 2) := by decide +kernel
theorem dX12_readChange_124 : decode cX12_readChange 124 = .ok (.aload_n 0, 1) := by decide +kernel
theorem dX12_readChange_125 : decode cX12_readChange 125 = .ok (.iconst 1, 1) := by decide +kernel
theorem dX12_readChange_126 : decode cX12_readChange 126 = .ok (.bipush 32, 2) := by decide +kernel
theorem dX12_readChange_128 : decode cX12_readChange 128 = .ok (.invokevirtual 270, 3) := by decide +kernel
theorem dX12_readChange_131 : decode cX12_readChange 131 = .ok (.iastore, 1) := by decide +kernel
theorem dX12_readChange_132 : decode cX12_readChange 132 = .ok (.aload_n 0, 1) := by decide +kernel
theorem dX12_readChange_133 : decode cX12_readChange 133 = .ok (.iload 4, 2) := by decide +kernel
theorem dX12_readChange_135 : decode cX12_readChange 135 = .ok (.iload_n 2, 1) := by decide +kernel
theorem dX12_readChange_136 : decode cX12_readChange 136 = .ok (.invokevirtual 207, 3) := by decide +kernel
theorem dX12_readChange_139 : decode cX12_readChange 139 = .ok (.iload 4, 2) := by decide +kernel
theorem dX12_readChange_141 : decode cX12_readChange 141 = .ok (.ireturn, 1) := by decide +kernel
theorem dX12_need_0 : decode cX12_need 0 = .ok (.aload_n 0, 1) := by decide +kernel
theorem dX12_need_1 : decode cX12_need 1 = .ok (.invokevirtual 261, 3) := by decide +kernel
theorem dX12_need_4 : decode cX12_need 4 = .ok (.aload_n 0, 1) := by decide +kernel
theorem dX12_need_5 : decode cX12_need 5 = .ok (.getfield 41, 3) := by decide +kernel
theorem dX12_need_8 : decode cX12_need 8 = .ok (.ifCond .eq 4, 3) := by decide +kernel
theorem dX12_need_11 : decode cX12_need 11 = .ok (.return_, 1) := by decide +kernel
theorem dX12_need_12 : decode cX12_need 12 = .ok (.aload_n 0, 1) := by decide +kernel
theorem dX12_need_13 : decode cX12_need 13 = .ok (.aload_n 0, 1) := by decide +kernel
theorem dX12_need_14 : decode cX12_need 14 = .ok (.getfield 240, 3) := by decide +kernel
theorem dX12_need_17 : decode cX12_need 17 = .ok (.invokevirtual 64, 3) := by decide +kernel
theorem dX12_need_20 : decode cX12_need 20 = .ok (.iload_n 1, 1) := by decide +kernel
theorem dX12_need_21 : decode cX12_need 21 = .ok (.if_icmp .eq 15, 3) := by decide +kernel
theorem dX12_need_24 : decode cX12_need 24 = .ok (.aload_n 0, 1) := by decide +kernel
theorem dX12_need_25 : decode cX12_need 25 = .ok (.iconst 1, 1) := by decide +kernel
theorem dX12_need_26 : decode cX12_need 26 = .ok (.aload_n 0, 1) := by decide +kernel
theorem dX12_need_27 : decode cX12_need 27 = .ok (.getfield 240, 3) := by decide +kernel
theorem dX12_need_30 : decode cX12_need 30 = .ok (.invokevirtual 237, 3) := by decide +kernel
theorem dX12_need_33 : decode cX12_need 33 = .ok (.goto 13, 3) := by decide +kernel
theorem dX12_need_36 : decode cX12_need 36 = .ok (.aload_n 0, 1) := by decide +kernel
theorem dX12_need_37 : decode cX12_need 37 = .ok (.dup, 1) := by decide +kernel
theorem dX12_need_38 : decode cX12_need 38 = .ok (.getfield 240, 3) := by decide +kernel
theorem dX12_need_41 : decode cX12_need 41 = .ok (.iconst 1, 1) := by decide +kernel
theorem dX12_need_42 : decode cX12_need 42 = .ok (.iadd, 1) := by decide +kernel
theorem dX12_need_43 : decode cX12_need 43 = .ok (.putfield 240, 3) := by decide +kernel
theorem dX12_need_46 : decode cX12_need 46 = .ok (.return_, 1) := by decide +kernel
theorem dX12_spread_0 : decode cX12_spread 0 = .ok (.aload_n 0, 1) := by decide +kernel
theorem dX12_spread_1 : decode cX12_spread 1 = .ok (.invokevirtual 264, 3) := by decide +kernel
theorem dX12_spread_4 : decode cX12_spread 4 = .ok (.istore_n 2, 1) := by decide +kernel
theorem dX12_spread_5 : decode cX12_spread 5 = .ok (.aload_n 0, 1) := by decide +kernel
theorem dX12_spread_6 : decode cX12_spread 6 = .ok (.getfield 58, 3) := by decide +kernel
theorem dX12_spread_9 : decode cX12_spread 9 = .ok (.istore_n 3, 1) := by decide +kernel
theorem dX12_spread_10 : decode cX12_spread 10 = .ok (.aload_n 0, 1) := by decide +kernel
theorem dX12_spread_11 : decode cX12_spread 11 = .ok (.bipush 44, 2) := by decide +kernel
theorem dX12_spread_13 : decode cX12_spread 13 = .ok (.invokevirtual 276, 3) := by decide +kernel
theorem dX12_spread_16 : decode cX12_spread 16 = .ok (.aload_n 0, 1) := by decide +kernel
theorem dX12_spread_17 : decode cX12_spread 17 = .ok (.getfield 41, 3) := by decide +kernel
theorem dX12_spread_20 : decode cX12_spread 20 = .ok (.ifCond .eq 4, 3) := by decide +kernel
theorem dX12_spread_23 : decode cX12_spread 23 = .ok (.return_, 1) := by decide +kernel
theorem dX12_spread_24 : decode cX12_spread 24 = .ok (.aload_n 0, 1) := by decide +kernel
theorem dX12_spread_25 : decode cX12_spread 25 = .ok (.getfield 17, 3) := by decide +kernel
theorem dX12_spread_28 : decode cX12_spread 28 = .ok (.iload_n 1, 1) := by decide +kernel
theorem dX12_spread_29 : decode cX12_spread 29 = .ok (.aload_n 0, 1) := by decide +kernel
theorem dX12_spread_30 : decode cX12_spread 30 = .ok (.iconst 1, 1) := by decide +kernel
theorem dX12_spread_31 : decode cX12_spread 31 = .ok (.bipush 32, 2) := by decide +kernel
theorem dX12_spread_33 : decode cX12_spread 33 = .ok (.invokevirtual 270, 3) := by decide +kernel
theorem dX12_spread_36 : decode cX12_spread 36 = .ok (.iastore, 1) := by decide +kernel
theorem dX12_spread_37 : decode cX12_spread 37 = .ok (.aload_n 0, 1) := by decide +kernel
theorem dX12_spread_38 : decode cX12_spread 38 = .ok (.getfield 41, 3) := by decide +kernel
theorem dX12_spread_41 : decode cX12_spread 41 = .ok (.ifCond .eq 4, 3) := by decide +kernel
theorem dX12_spread_44 : decode cX12_spread 44 = .ok (.return_, 1) := by decide +kernel
theorem dX12_spread_45 : decode cX12_spread 45 = .ok (.aload_n 0, 1) := by decide +kernel
theorem dX12_spread_46 : decode cX12_spread 46 = .ok (.getfield 14, 3) := by decide +kernel
theorem dX12_spread_49 : decode cX12_spread 49 = .ok (.iload_n 1, 1) := by decide +kernel
theorem dX12_spread_50 : decode cX12_spread 50 = .ok (.iload_n 2, 1) := by decide +kernel
theorem dX12_spread_51 : decode cX12_spread 51 = .ok (.iastore, 1) := by decide +kernel
theorem dX12_spread_52 : decode cX12_spread 52 = .ok (.iload_n 2, 1) := by decide +kernel
theorem dX12_spread_53 : decode cX12_spread 53 = .ok (.aload_n 0, 1) := by decide +kernel
theorem dX12_spread_54 : decode cX12_spread 54 = .ok (.getfield 17, 3) := by decide +kernel
theorem dX12_spread_57 : decode cX12_spread 57 = .ok (.iload_n 1, 1) := by decide +kernel
theorem dX12_spread_58 : decode cX12_spread 58 = .ok (.iaload, 1) := by decide +kernel
theorem dX12_spread_59 : decode cX12_spread 59 = .ok (.if_icmp .le 9, 3) := by decide +kernel
theorem dX12_spread_62 : decode cX12_spread 62 = .ok (.aload_n 0, 1) := by decide +kernel
theorem dX12_spread_63 : decode cX12_spread 63 = .ok (.iconst 3, 1) := by decide +kernel
theorem dX12_spread_64 : decode cX12_spread 64 = .ok (.iload_n 3, 1) := by decide +kernel
theorem dX12_spread_65 : decode cX12_spread 65 = .ok (.invokevirtual 237, 3) := by decide +kernel
theorem dX12_spread_68 : decode cX12_spread 68 = .ok (.aload_n 0, 1) := by decide +kernel
theorem dX12_spread_69 : decode cX12_spread 69 = .ok (.invokevirtual 261, 3) := by decide +kernel
theorem dX12_spread_72 : decode cX12_spread 72 = .ok (.aload_n 0, 1) := by decide +kernel
theorem dX12_spread_73 : decode cX12_spread 73 = .ok (.getfield 41, 3) := by decide +kernel
theorem dX12_spread_76 : decode cX12_spread 76 = .ok (.ifCond .ne 39, 3) := by decide +kernel
theorem dX12_spread_79 : decode cX12_spread 79 = .ok (.aload_n 0, 1) := by decide +kernel
theorem dX12_spread_80 : decode cX12_spread 80 = .ok (.aload_n 0, 1) := by decide +kernel
theorem dX12_spread_81 : decode cX12_spread 81 = .ok (.getfield 240, 3) := by decide +kernel
theorem dX12_spread_84 : decode cX12_spread 84 = .ok (.invokevirtual 64, 3) := by decide +kernel
theorem dX12_spread_87 : decode cX12_spread 87 = .ok (.bipush 44, 2) := by decide +kernel
theorem dX12_spread_89 : decode cX12_spread 89 = .ok (.if_icmp .ne 26, 3) := by decide +kernel
theorem dX12_spread_92 : decode cX12_spread 92 = .ok (.aload_n 0, 1) := by decide +kernel
theorem dX12_spread_93 : decode cX12_spread 93 = .ok (.dup, 1) := by decide +kernel
theorem dX12_spread_94 : decode cX12_spread 94 = .ok (.getfield 240, 3) := by decide +kernel
theorem dX12_spread_97 : decode cX12_spread 97 = .ok (.iconst 1, 1) := by decide +kernel
theorem dX12_spread_98 : decode cX12_spread 98 = .ok (.iadd, 1) := by decide +kernel
theorem dX12_spread_99 : decode cX12_spread 99 = .ok (.putfield 240, 3) := by decide +kernel
theorem dX12_spread_102 : decode cX12_spread 102 = .ok (.aload_n 0, 1) := by decide +kernel
theorem dX12_spread_103 : decode cX12_spread 103 = .ok (.getfield 20, 3) := by decide +kernel
theorem dX12_spread_106 : decode cX12_spread 106 = .ok (.iload_n 1, 1) := by decide +kernel
theorem dX12_spread_107 : decode cX12_spread 107 = .ok (.aload_n 0, 1) := by decide +kernel
theorem dX12_spread_108 : decode cX12_spread 108 = .ok (.iconst 0, 1) := by decide +kernel
theorem dX12_spread_109 : decode cX12_spread 109 = .ok (.bipush 31, 2) := by decide +kernel
theorem dX12_spread_111 : decode cX12_spread 111 = .ok (.invokevirtual 270, 3) := by decide +kernel
theorem dX12_spread_114 : decode cX12_spread 114 = .ok (.iastore, 1) := by decide +kernel
theorem dX12_spread_115 : decode cX12_spread 115 = .ok (.aload_n 0, 1) := by decide +kernel
theorem dX12_spread_116 : decode cX12_spread 116 = .ok (.bipush 41, 2) := by decide +kernel
theorem dX12_spread_118 : decode cX12_spread 118 = .ok (.invokevirtual 276, 3) := by decide +kernel
theorem dX12_spread_121 : decode cX12_spread 121 = .ok (.return_, 1) := by decide +kernel
theorem dX12_readPart_0 : decode cX12_readPart 0 = .ok (.aload_n 0, 1) := by decide +kernel
theorem dX12_readPart_1 : decode cX12_readPart 1 = .ok (.aload_n 0, 1) := by decide +kernel
theorem dX12_readPart_2 : decode cX12_readPart 2 = .ok (.getfield 240, 3) := by decide +kernel
theorem dX12_readPart_5 : decode cX12_readPart 5 = .ok (.invokevirtual 64, 3) := by decide +kernel
theorem dX12_readPart_8 : decode cX12_readPart 8 = .ok (.istore_n 2, 1) := by decide +kernel
theorem dX12_readPart_9 : decode cX12_readPart 9 = .ok (.aload_n 0, 1) := by decide +kernel
theorem dX12_readPart_10 : decode cX12_readPart 10 = .ok (.getfield 147, 3) := by decide +kernel
theorem dX12_readPart_13 : decode cX12_readPart 13 = .ok (.iload_n 1, 1) := by decide +kernel
theorem dX12_readPart_14 : decode cX12_readPart 14 = .ok (.iaload, 1) := by decide +kernel
theorem dX12_readPart_15 : decode cX12_readPart 15 = .ok (.ifCond .le 10, 3) := by decide +kernel
theorem dX12_readPart_18 : decode cX12_readPart 18 = .ok (.aload_n 0, 1) := by decide +kernel
theorem dX12_readPart_19 : decode cX12_readPart 19 = .ok (.iload_n 1, 1) := by decide +kernel
theorem dX12_readPart_20 : decode cX12_readPart 20 = .ok (.iload_n 2, 1) := by decide +kernel
theorem dX12_readPart_21 : decode cX12_readPart 21 = .ok (.invokevirtual 279, 3) := by decide +kernel
theorem dX12_readPart_24 : decode cX12_readPart 24 = .ok (.return_, 1) := by decide +kernel
theorem dX12_readPart_25 : decode cX12_readPart 25 = .ok (.aload_n 0, 1) := by decide +kernel
theorem dX12_readPart_26 : decode cX12_readPart 26 = .ok (.getfield 240, 3) := by decide +kernel
theorem dX12_readPart_29 : decode cX12_readPart 29 = .ok (.istore_n 3, 1) := by decide +kernel
theorem dX12_readPart_30 : decode cX12_readPart 30 = .ok (.iload_n 2, 1) := by decide +kernel
theorem dX12_readPart_31 : decode cX12_readPart 31 = .ok (.invokestatic 71, 3) := by decide +kernel
theorem dX12_readPart_34 : decode cX12_readPart 34 = .ok (.ifCond .eq 152, 3) := by decide +kernel
theorem dX12_readPart_37 : decode cX12_readPart 37 = .ok (.aload_n 0, 1) := by decide +kernel
theorem dX12_readPart_38 : decode cX12_readPart 38 = .ok (.bipush 20, 2) := by decide +kernel
theorem dX12_readPart_40 : decode cX12_readPart 40 = .ok (.aload_n 0, 1) := by decide +kernel
theorem dX12_readPart_41 : decode cX12_readPart 41 = .ok (.getfield 240, 3) := by decide +kernel
theorem dX12_readPart_44 : decode cX12_readPart 44 = .ok (.invokevirtual 203, 3) := by decide +kernel
theorem dX12_readPart_47 : decode cX12_readPart 47 = .ok (.istore 4, 2) := by decide +kernel
theorem dX12_readPart_49 : decode cX12_readPart 49 = .ok (.iconst 0, 1) := by decide +kernel
theorem dX12_readPart_50 : decode cX12_readPart 50 = .ok (.istore 5, 2) := by decide +kernel
theorem dX12_readPart_52 : decode cX12_readPart 52 = .ok (.aload_n 0, 1) := by decide +kernel
theorem dX12_readPart_53 : decode cX12_readPart 53 = .ok (.aload_n 0, 1) := by decide +kernel
theorem dX12_readPart_54 : decode cX12_readPart 54 = .ok (.getfield 240, 3) := by decide +kernel
theorem dX12_readPart_57 : decode cX12_readPart 57 = .ok (.invokevirtual 64, 3) := by decide +kernel
theorem dX12_readPart_60 : decode cX12_readPart 60 = .ok (.invokestatic 71, 3) := by decide +kernel
theorem dX12_readPart_63 : decode cX12_readPart 63 = .ok (.ifCond .eq 114, 3) := by decide +kernel
theorem dX12_readPart_66 : decode cX12_readPart 66 = .ok (.aload_n 0, 1) := by decide +kernel
theorem dX12_readPart_67 : decode cX12_readPart 67 = .ok (.getfield 41, 3) := by decide +kernel
theorem dX12_readPart_70 : decode cX12_readPart 70 = .ok (.ifCond .ne 107, 3) := by decide +kernel
theorem dX12_readPart_73 : decode cX12_readPart 73 = .ok (.iload 5, 2) := by decide +kernel
theorem dX12_readPart_75 : decode cX12_readPart 75 = .ok (.bipush 8, 2) := by decide +kernel
theorem dX12_readPart_77 : decode cX12_readPart 77 = .ok (.if_icmp .ne 15, 3) := by decide +kernel
theorem dX12_readPart_80 : decode cX12_readPart 80 = .ok (.aload_n 0, 1) := by decide +kernel
theorem dX12_readPart_81 : decode cX12_readPart 81 = .ok (.iconst 1, 1) := by decide +kernel
theorem dX12_readPart_82 : decode cX12_readPart 82 = .ok (.aload_n 0, 1) := by decide +kernel
theorem dX12_readPart_83 : decode cX12_readPart 83 = .ok (.getfield 240, 3) := by decide +kernel
theorem dX12_readPart_86 : decode cX12_readPart 86 = .ok (.invokevirtual 237, 3) := by decide +kernel
theorem dX12_readPart_89 : decode cX12_readPart 89 = .ok (.goto 72, 3) := by decide +kernel
theorem dX12_readPart_92 : decode cX12_readPart 92 = .ok (.iload 5, 2) := by decide +kernel
theorem dX12_readPart_94 : decode cX12_readPart 94 = .ok (.iconst 4, 1) := by decide +kernel
theorem dX12_readPart_95 : decode cX12_readPart 95 = .ok (.if_icmp .ge 36, 3) := by decide +kernel
theorem dX12_readPart_98 : decode cX12_readPart 98 = .ok (.aload_n 0, 1) := by decide +kernel
theorem dX12_readPart_99 : decode cX12_readPart 99 = .ok (.getfield 14, 3) := by decide +kernel
theorem dX12_readPart_102 : decode cX12_readPart 102 = .ok (.iload 4, 2) := by decide +kernel
theorem dX12_readPart_104 : decode cX12_readPart 104 = .ok (.aload_n 0, 1) := by decide +kernel
theorem dX12_readPart_105 : decode cX12_readPart 105 = .ok (.getfield 14, 3) := by decide +kernel
theorem dX12_readPart_108 : decode cX12_readPart 108 = .ok (.iload 4, 2) := by decide +kernel
theorem dX12_readPart_110 : decode cX12_readPart 110 = .ok (.iaload, 1) := by decide +kernel
theorem dX12_readPart_111 : decode cX12_readPart 111 = .ok (.iconst 5, 1) := by decide +kernel
theorem dX12_readPart_112 : decode cX12_readPart 112 = .ok (.ishl, 1) := by decide +kernel
theorem dX12_readPart_113 : decode cX12_readPart 113 = .ok (.aload_n 0, 1) := by decide +kernel
theorem dX12_readPart_114 : decode cX12_readPart 114 = .ok (.aload_n 0, 1) := by decide +kernel
theorem dX12_readPart_115 : decode cX12_readPart 115 = .ok (.getfield 240, 3) := by decide +kernel
theorem dX12_readPart_118 : decode cX12_readPart 118 = .ok (.invokevirtual 64, 3) := by decide +kernel
theorem dX12_readPart_121 : decode cX12_readPart 121 = .ok (.bipush 97, 2) := by decide +kernel
theorem dX12_readPart_123 : decode cX12_readPart 123 = .ok (.isub, 1) := by decide +kernel
theorem dX12_readPart_124 : decode cX12_readPart 124 = .ok (.iconst 1, 1) := by decide +kernel
theorem dX12_readPart_125 : decode cX12_readPart 125 = .ok (.iadd, 1) := by decide +kernel
theorem dX12_readPart_126 : decode cX12_readPart 126 = .ok (.ior, 1) := by decide +kernel
theorem dX12_readPart_127 : decode cX12_readPart 127 = .ok (.iastore, 1) := by decide +kernel
theorem dX12_readPart_128 : decode cX12_readPart 128 = .ok (.goto 33, 3) := by decide +kernel
theorem dX12_readPart_131 : decode cX12_readPart 131 = .ok (.aload_n 0, 1) := by decide +kernel
theorem dX12_readPart_132 : decode cX12_readPart 132 = .ok (.getfield 17, 3) := by decide +kernel
theorem dX12_readPart_135 : decode cX12_readPart 135 = .ok (.iload 4, 2) := by decide +kernel
theorem dX12_readPart_137 : decode cX12_readPart 137 = .ok (.aload_n 0, 1) := by decide +kernel
theorem dX12_readPart_138 : decode cX12_readPart 138 = .ok (.getfield 17, 3) := by decide +kernel
theorem dX12_readPart_141 : decode cX12_readPart 141 = .ok (.iload 4, 2) := by decide +kernel
theorem dX12_readPart_143 : decode cX12_readPart 143 = .ok (.iaload, 1) := by decide +kernel
theorem dX12_readPart_144 : decode cX12_readPart 144 = .ok (.iconst 5, 1) := by decide +kernel
theorem dX12_readPart_145 : decode cX12_readPart 145 = .ok (.ishl, 1) := by decide +kernel
theorem dX12_readPart_146 : decode cX12_readPart 146 = .ok (.aload_n 0, 1) := by decide +kernel
theorem dX12_readPart_147 : decode cX12_readPart 147 = .ok (.aload_n 0, 1) := by decide +kernel
theorem dX12_readPart_148 : decode cX12_readPart 148 = .ok (.getfield 240, 3) := by decide +kernel
theorem dX12_readPart_151 : decode cX12_readPart 151 = .ok (.invokevirtual 64, 3) := by decide +kernel
theorem dX12_readPart_154 : decode cX12_readPart 154 = .ok (.bipush 97, 2) := by decide +kernel
theorem dX12_readPart_156 : decode cX12_readPart 156 = .ok (.isub, 1) := by decide +kernel
theorem dX12_readPart_157 : decode cX12_readPart 157 = .ok (.iconst 1, 1) := by decide +kernel
theorem dX12_readPart_158 : decode cX12_readPart 158 = .ok (.iadd, 1) := by decide +kernel
theorem dX12_readPart_159 : decode cX12_readPart 159 = .ok (.ior, 1) := by decide +kernel
theorem dX12_readPart_160 : decode cX12_readPart 160 = .ok (.iastore, 1) := by decide +kernel
theorem dX12_readPart_161 : decode cX12_readPart 161 = .ok (.iinc 5 1, 3) := by decide +kernel
theorem dX12_readPart_164 : decode cX12_readPart 164 = .ok (.aload_n 0, 1) := by decide +kernel
theorem dX12_readPart_165 : decode cX12_readPart 165 = .ok (.dup, 1) := by decide +kernel
theorem dX12_readPart_166 : decode cX12_readPart 166 = .ok (.getfield 240, 3) := by decide +kernel
theorem dX12_readPart_169 : decode cX12_readPart 169 = .ok (.iconst 1, 1) := by decide +kernel
theorem dX12_readPart_170 : decode cX12_readPart 170 = .ok (.iadd, 1) := by decide +kernel
theorem dX12_readPart_171 : decode cX12_readPart 171 = .ok (.putfield 240, 3) := by decide +kernel
theorem dX12_readPart_174 : decode cX12_readPart 174 = .ok (.goto (-122), 3) := by decide +kernel
theorem dX12_readPart_177 : decode cX12_readPart 177 = .ok (.aload_n 0, 1) := by decide +kernel
theorem dX12_readPart_178 : decode cX12_readPart 178 = .ok (.iload 4, 2) := by decide +kernel
theorem dX12_readPart_180 : decode cX12_readPart 180 = .ok (.invokevirtual 200, 3) := by decide +kernel
theorem dX12_readPart_183 : decode cX12_readPart 183 = .ok (.goto 170, 3) := by decide +kernel
theorem dX12_readPart_186 : decode cX12_readPart 186 = .ok (.iload_n 2, 1) := by decide +kernel
theorem dX12_readPart_187 : decode cX12_readPart 187 = .ok (.invokestatic 78, 3) := by decide +kernel
theorem dX12_readPart_190 : decode cX12_readPart 190 = .ok (.ifCond .ne 9, 3) := by decide +kernel
theorem dX12_readPart_193 : decode cX12_readPart 193 = .ok (.iload_n 2, 1) := by decide +kernel
theorem dX12_readPart_194 : decode cX12_readPart 194 = .ok (.bipush 45, 2) := by decide +kernel
theorem dX12_readPart_196 : decode cX12_readPart 196 = .ok (.if_icmp .ne 11, 3) := by decide +kernel
theorem dX12_readPart_199 : decode cX12_readPart 199 = .ok (.aload_n 0, 1) := by decide +kernel
theorem dX12_readPart_200 : decode cX12_readPart 200 = .ok (.iload_n 2, 1) := by decide +kernel
theorem dX12_readPart_201 : decode cX12_readPart 201 = .ok (.invokevirtual 282, 3) := by decide +kernel
theorem dX12_readPart_204 : decode cX12_readPart 204 = .ok (.goto 149, 3) := by decide +kernel
theorem dX12_readPart_207 : decode cX12_readPart 207 = .ok (.iload_n 2, 1) := by decide +kernel
theorem dX12_readPart_208 : decode cX12_readPart 208 = .ok (.bipush 126, 2) := by decide +kernel
theorem dX12_readPart_210 : decode cX12_readPart 210 = .ok (.if_icmp .ne 27, 3) := by decide +kernel
theorem dX12_readPart_213 : decode cX12_readPart 213 = .ok (.aload_n 0, 1) := by decide +kernel
theorem dX12_readPart_214 : decode cX12_readPart 214 = .ok (.dup, 1) := by decide +kernel
theorem dX12_readPart_215 : decode cX12_readPart 215 = .ok (.getfield 240, 3) := by decide +kernel
theorem dX12_readPart_218 : decode cX12_readPart 218 = .ok (.iconst 1, 1) := by decide +kernel
theorem dX12_readPart_219 : decode cX12_readPart 219 = .ok (.iadd, 1) := by decide +kernel
theorem dX12_readPart_220 : decode cX12_readPart 220 = .ok (.putfield 240, 3) := by decide +kernel
theorem dX12_readPart_223 : decode cX12_readPart 223 = .ok (.aload_n 0, 1) := by decide +kernel
theorem dX12_readPart_224 : decode cX12_readPart 224 = .ok (.aload_n 0, 1) := by decide +kernel
theorem dX12_readPart_225 : decode cX12_readPart 225 = .ok (.bipush 22, 2) := by decide +kernel
theorem dX12_readPart_227 : decode cX12_readPart 227 = .ok (.iload_n 3, 1) := by decide +kernel
theorem dX12_readPart_228 : decode cX12_readPart 228 = .ok (.invokevirtual 203, 3) := by decide +kernel
theorem dX12_readPart_231 : decode cX12_readPart 231 = .ok (.invokevirtual 200, 3) := by decide +kernel
theorem dX12_readPart_234 : decode cX12_readPart 234 = .ok (.goto 119, 3) := by decide +kernel
theorem dX12_readPart_237 : decode cX12_readPart 237 = .ok (.iload_n 2, 1) := by decide +kernel
theorem dX12_readPart_238 : decode cX12_readPart 238 = .ok (.bipush 91, 2) := by decide +kernel
theorem dX12_readPart_240 : decode cX12_readPart 240 = .ok (.if_icmp .eq 15, 3) := by decide +kernel
theorem dX12_readPart_243 : decode cX12_readPart 243 = .ok (.iload_n 2, 1) := by decide +kernel
theorem dX12_readPart_244 : decode cX12_readPart 244 = .ok (.bipush 60, 2) := by decide +kernel
theorem dX12_readPart_246 : decode cX12_readPart 246 = .ok (.if_icmp .eq 9, 3) := by decide +kernel
theorem dX12_readPart_249 : decode cX12_readPart 249 = .ok (.iload_n 2, 1) := by decide +kernel
theorem dX12_readPart_250 : decode cX12_readPart 250 = .ok (.bipush 123, 2) := by decide +kernel
theorem dX12_readPart_252 : decode cX12_readPart 252 = .ok (.if_icmp .ne 92, 3) := by decide +kernel
theorem dX12_readPart_255 : decode cX12_readPart 255 = .ok (.aload_n 0, 1) := by decide +kernel
theorem dX12_readPart_256 : decode cX12_readPart 256 = .ok (.iload_n 3, 1) := by decide +kernel
theorem dX12_readPart_257 : decode cX12_readPart 257 = .ok (.invokevirtual 243, 3) := by decide +kernel
theorem dX12_readPart_260 : decode cX12_readPart 260 = .ok (.ifCond .ne 4, 3) := by decide +kernel
theorem dX12_readPart_263 : decode cX12_readPart 263 = .ok (.return_, 1) := by decide +kernel
theorem dX12_readPart_264 : decode cX12_readPart 264 = .ok (.aload_n 0, 1) := by decide +kernel
theorem dX12_readPart_265 : decode cX12_readPart 265 = .ok (.dup, 1) := by decide +kernel
theorem dX12_readPart_266 : decode cX12_readPart 266 = .ok (.getfield 240, 3) := by decide +kernel
theorem dX12_readPart_269 : decode cX12_readPart 269 = .ok (.iconst 1, 1) := by decide +kernel
theorem dX12_readPart_270 : decode cX12_readPart 270 = .ok (.iadd, 1) := by decide +kernel
theorem dX12_readPart_271 : decode cX12_readPart 271 = .ok (.putfield 240, 3) := by decide +kernel
theorem dX12_readPart_274 : decode cX12_readPart 274 = .ok (.aload_n 0, 1) := by decide +kernel
theorem dX12_readPart_275 : decode cX12_readPart 275 = .ok (.getfield 147, 3) := by decide +kernel
theorem dX12_readPart_278 : decode cX12_readPart 278 = .ok (.iload_n 1, 1) := by decide +kernel
theorem dX12_readPart_279 : decode cX12_readPart 279 = .ok (.iload_n 2, 1) := by decide +kernel
theorem dX12_readPart_280 : decode cX12_readPart 280 = .ok (.iastore, 1) := by decide +kernel
theorem dX12_readPart_281 : decode cX12_readPart 281 = .ok (.aload_n 0, 1) := by decide +kernel
theorem dX12_readPart_282 : decode cX12_readPart 282 = .ok (.getfield 144, 3) := by decide +kernel
theorem dX12_readPart_285 : decode cX12_readPart 285 = .ok (.iload_n 1, 1) := by decide +kernel
theorem dX12_readPart_286 : decode cX12_readPart 286 = .ok (.aload_n 0, 1) := by decide +kernel
theorem dX12_readPart_287 : decode cX12_readPart 287 = .ok (.iload_n 2, 1) := by decide +kernel
theorem dX12_readPart_288 : decode cX12_readPart 288 = .ok (.bipush 91, 2) := by decide +kernel
theorem dX12_readPart_290 : decode cX12_readPart 290 = .ok (.if_icmp .ne 8, 3) := by decide +kernel
theorem dX12_readPart_293 : decode cX12_readPart 293 = .ok (.bipush 25, 2) := by decide +kernel
theorem dX12_readPart_295 : decode cX12_readPart 295 = .ok (.goto 16, 3) := by decide +kernel
theorem dX12_readPart_298 : decode cX12_readPart 298 = .ok (.iload_n 2, 1) := by decide +kernel
theorem dX12_readPart_299 : decode cX12_readPart 299 = .ok (.bipush 60, 2) := by decide +kernel
theorem dX12_readPart_301 : decode cX12_readPart 301 = .ok (.if_icmp .ne 8, 3) := by decide +kernel
theorem dX12_readPart_304 : decode cX12_readPart 304 = .ok (.bipush 26, 2) := by decide +kernel
theorem dX12_readPart_306 : decode cX12_readPart 306 = .ok (.goto 5, 3) := by decide +kernel
theorem dX12_readPart_309 : decode cX12_readPart 309 = .ok (.bipush 27, 2) := by decide +kernel
theorem dX12_readPart_311 : decode cX12_readPart 311 = .ok (.iload_n 3, 1) := by decide +kernel
theorem dX12_readPart_312 : decode cX12_readPart 312 = .ok (.invokevirtual 203, 3) := by decide +kernel
theorem dX12_readPart_315 : decode cX12_readPart 315 = .ok (.iastore, 1) := by decide +kernel
theorem dX12_readPart_316 : decode cX12_readPart 316 = .ok (.aload_n 0, 1) := by decide +kernel
theorem dX12_readPart_317 : decode cX12_readPart 317 = .ok (.bipush 10, 2) := by decide +kernel
theorem dX12_readPart_319 : decode cX12_readPart 319 = .ok (.iconst (-1), 1) := by decide +kernel
theorem dX12_readPart_320 : decode cX12_readPart 320 = .ok (.iload_n 2, 1) := by decide +kernel
theorem dX12_readPart_321 : decode cX12_readPart 321 = .ok (.bipush 91, 2) := by decide +kernel
theorem dX12_readPart_323 : decode cX12_readPart 323 = .ok (.if_icmp .ne 7, 3) := by decide +kernel
theorem dX12_readPart_326 : decode cX12_readPart 326 = .ok (.iconst 0, 1) := by decide +kernel
theorem dX12_readPart_327 : decode cX12_readPart 327 = .ok (.goto 11, 3) := by decide +kernel
theorem dX12_readPart_330 : decode cX12_readPart 330 = .ok (.aload_n 0, 1) := by decide +kernel
theorem dX12_readPart_331 : decode cX12_readPart 331 = .ok (.getfield 144, 3) := by decide +kernel
theorem dX12_readPart_334 : decode cX12_readPart 334 = .ok (.iload_n 1, 1) := by decide +kernel
theorem dX12_readPart_335 : decode cX12_readPart 335 = .ok (.iaload, 1) := by decide +kernel
theorem dX12_readPart_336 : decode cX12_readPart 336 = .ok (.iconst 1, 1) := by decide +kernel
theorem dX12_readPart_337 : decode cX12_readPart 337 = .ok (.iadd, 1) := by decide +kernel
theorem dX12_readPart_338 : decode cX12_readPart 338 = .ok (.invokevirtual 159, 3) := by decide +kernel
theorem dX12_readPart_341 : decode cX12_readPart 341 = .ok (.goto 12, 3) := by decide +kernel
theorem dX12_readPart_344 : decode cX12_readPart 344 = .ok (.aload_n 0, 1) := by decide +kernel
theorem dX12_readPart_345 : decode cX12_readPart 345 = .ok (.iconst 1, 1) := by decide +kernel
theorem dX12_readPart_346 : decode cX12_readPart 346 = .ok (.aload_n 0, 1) := by decide +kernel
theorem dX12_readPart_347 : decode cX12_readPart 347 = .ok (.getfield 240, 3) := by decide +kernel
theorem dX12_readPart_350 : decode cX12_readPart 350 = .ok (.invokevirtual 237, 3) := by decide +kernel
theorem dX12_readPart_353 : decode cX12_readPart 353 = .ok (.return_, 1) := by decide +kernel
theorem dX12_partNumber_0 : decode cX12_partNumber 0 = .ok (.aload_n 0, 1) := by decide +kernel
theorem dX12_partNumber_1 : decode cX12_partNumber 1 = .ok (.bipush 21, 2) := by decide +kernel
theorem dX12_partNumber_3 : decode cX12_partNumber 3 = .ok (.aload_n 0, 1) := by decide +kernel
theorem dX12_partNumber_4 : decode cX12_partNumber 4 = .ok (.getfield 240, 3) := by decide +kernel
theorem dX12_partNumber_7 : decode cX12_partNumber 7 = .ok (.invokevirtual 203, 3) := by decide +kernel
theorem dX12_partNumber_10 : decode cX12_partNumber 10 = .ok (.istore_n 2, 1) := by decide +kernel
theorem dX12_partNumber_11 : decode cX12_partNumber 11 = .ok (.iload_n 1, 1) := by decide +kernel
theorem dX12_partNumber_12 : decode cX12_partNumber 12 = .ok (.bipush 45, 2) := by decide +kernel
theorem dX12_partNumber_14 : decode cX12_partNumber 14 = .ok (.if_icmp .ne 7, 3) := by decide +kernel
theorem dX12_partNumber_17 : decode cX12_partNumber 17 = .ok (.iconst 1, 1) := by decide +kernel
theorem dX12_partNumber_18 : decode cX12_partNumber 18 = .ok (.goto 4, 3) := by decide +kernel
theorem dX12_partNumber_21 : decode cX12_partNumber 21 = .ok (.iconst 0, 1) := by decide +kernel
theorem dX12_partNumber_22 : decode cX12_partNumber 22 = .ok (.istore_n 3, 1) := by decide +kernel
theorem dX12_partNumber_23 : decode cX12_partNumber 23 = .ok (.iload_n 3, 1) := by decide +kernel
theorem dX12_partNumber_24 : decode cX12_partNumber 24 = .ok (.ifCond .eq 13, 3) := by decide +kernel
theorem dX12_partNumber_27 : decode cX12_partNumber 27 = .ok (.aload_n 0, 1) := by decide +kernel
theorem dX12_partNumber_28 : decode cX12_partNumber 28 = .ok (.dup, 1) := by decide +kernel
theorem dX12_partNumber_29 : decode cX12_partNumber 29 = .ok (.getfield 240, 3) := by decide +kernel
theorem dX12_partNumber_32 : decode cX12_partNumber 32 = .ok (.iconst 1, 1) := by decide +kernel
theorem dX12_partNumber_33 : decode cX12_partNumber 33 = .ok (.iadd, 1) := by decide +kernel
theorem dX12_partNumber_34 : decode cX12_partNumber 34 = .ok (.putfield 240, 3) := by decide +kernel
theorem dX12_partNumber_37 : decode cX12_partNumber 37 = .ok (.iconst 0, 1) := by decide +kernel
theorem dX12_partNumber_38 : decode cX12_partNumber 38 = .ok (.istore 4, 2) := by decide +kernel
theorem dX12_partNumber_40 : decode cX12_partNumber 40 = .ok (.iconst 0, 1) := by decide +kernel
theorem dX12_partNumber_41 : decode cX12_partNumber 41 = .ok (.istore 5, 2) := by decide +kernel
theorem dX12_partNumber_43 : decode cX12_partNumber 43 = .ok (.aload_n 0, 1) := by decide +kernel
theorem dX12_partNumber_44 : decode cX12_partNumber 44 = .ok (.aload_n 0, 1) := by decide +kernel
theorem dX12_partNumber_45 : decode cX12_partNumber 45 = .ok (.getfield 240, 3) := by decide +kernel
theorem dX12_partNumber_48 : decode cX12_partNumber 48 = .ok (.invokevirtual 64, 3) := by decide +kernel
theorem dX12_partNumber_51 : decode cX12_partNumber 51 = .ok (.invokestatic 78, 3) := by decide +kernel
theorem dX12_partNumber_54 : decode cX12_partNumber 54 = .ok (.ifCond .eq 61, 3) := by decide +kernel
theorem dX12_partNumber_57 : decode cX12_partNumber 57 = .ok (.aload_n 0, 1) := by decide +kernel
theorem dX12_partNumber_58 : decode cX12_partNumber 58 = .ok (.getfield 41, 3) := by decide +kernel
theorem dX12_partNumber_61 : decode cX12_partNumber 61 = .ok (.ifCond .ne 54, 3) := by decide +kernel
theorem dX12_partNumber_64 : decode cX12_partNumber 64 = .ok (.iload 5, 2) := by decide +kernel
theorem dX12_partNumber_66 : decode cX12_partNumber 66 = .ok (.bipush 6, 2) := by decide +kernel
theorem dX12_partNumber_68 : decode cX12_partNumber 68 = .ok (.if_icmp .ne 12, 3) := by decide +kernel
theorem dX12_partNumber_71 : decode cX12_partNumber 71 = .ok (.aload_n 0, 1) := by decide +kernel
theorem dX12_partNumber_72 : decode cX12_partNumber 72 = .ok (.iconst 1, 1) := by decide +kernel
theorem dX12_partNumber_73 : decode cX12_partNumber 73 = .ok (.aload_n 0, 1) := by decide +kernel
theorem dX12_partNumber_74 : decode cX12_partNumber 74 = .ok (.getfield 240, 3) := by decide +kernel
theorem dX12_partNumber_77 : decode cX12_partNumber 77 = .ok (.invokevirtual 237, 3) := by decide +kernel
theorem dX12_partNumber_80 : decode cX12_partNumber 80 = .ok (.bipush 10, 2) := by decide +kernel
theorem dX12_partNumber_82 : decode cX12_partNumber 82 = .ok (.iload 4, 2) := by decide +kernel
theorem dX12_partNumber_84 : decode cX12_partNumber 84 = .ok (.imul, 1) := by decide +kernel
theorem dX12_partNumber_85 : decode cX12_partNumber 85 = .ok (.aload_n 0, 1) := by decide +kernel
theorem dX12_partNumber_86 : decode cX12_partNumber 86 = .ok (.aload_n 0, 1) := by decide +kernel
theorem dX12_partNumber_87 : decode cX12_partNumber 87 = .ok (.getfield 240, 3) := by decide +kernel
theorem dX12_partNumber_90 : decode cX12_partNumber 90 = .ok (.invokevirtual 64, 3) := by decide +kernel
theorem dX12_partNumber_93 : decode cX12_partNumber 93 = .ok (.iadd, 1) := by decide +kernel
theorem dX12_partNumber_94 : decode cX12_partNumber 94 = .ok (.bipush 48, 2) := by decide +kernel
theorem dX12_partNumber_96 : decode cX12_partNumber 96 = .ok (.isub, 1) := by decide +kernel
theorem dX12_partNumber_97 : decode cX12_partNumber 97 = .ok (.istore 4, 2) := by decide +kernel
theorem dX12_partNumber_99 : decode cX12_partNumber 99 = .ok (.iinc 5 1, 3) := by decide +kernel
theorem dX12_partNumber_102 : decode cX12_partNumber 102 = .ok (.aload_n 0, 1) := by decide +kernel
theorem dX12_partNumber_103 : decode cX12_partNumber 103 = .ok (.dup, 1) := by decide +kernel
theorem dX12_partNumber_104 : decode cX12_partNumber 104 = .ok (.getfield 240, 3) := by decide +kernel
theorem dX12_partNumber_107 : decode cX12_partNumber 107 = .ok (.iconst 1, 1) := by decide +kernel
theorem dX12_partNumber_108 : decode cX12_partNumber 108 = .ok (.iadd, 1) := by decide +kernel
theorem dX12_partNumber_109 : decode cX12_partNumber 109 = .ok (.putfield 240, 3) := by decide +kernel
theorem dX12_partNumber_112 : decode cX12_partNumber 112 = .ok (.goto (-69), 3) := by decide +kernel
theorem dX12_partNumber_115 : decode cX12_partNumber 115 = .ok (.iload 5, 2) := by decide +kernel
theorem dX12_partNumber_117 : decode cX12_partNumber 117 = .ok (.ifCond .ne 12, 3) := by decide +kernel
theorem dX12_partNumber_120 : decode cX12_partNumber 120 = .ok (.aload_n 0, 1) := by decide +kernel
theorem dX12_partNumber_121 : decode cX12_partNumber 121 = .ok (.iconst 1, 1) := by decide +kernel
theorem dX12_partNumber_122 : decode cX12_partNumber 122 = .ok (.aload_n 0, 1) := by decide +kernel
theorem dX12_partNumber_123 : decode cX12_partNumber 123 = .ok (.getfield 240, 3) := by decide +kernel
theorem dX12_partNumber_126 : decode cX12_partNumber 126 = .ok (.invokevirtual 237, 3) := by decide +kernel
theorem dX12_partNumber_129 : decode cX12_partNumber 129 = .ok (.aload_n 0, 1) := by decide +kernel
theorem dX12_partNumber_130 : decode cX12_partNumber 130 = .ok (.getfield 14, 3) := by decide +kernel
theorem dX12_partNumber_133 : decode cX12_partNumber 133 = .ok (.iload_n 2, 1) := by decide +kernel
theorem dX12_partNumber_134 : decode cX12_partNumber 134 = .ok (.iload_n 3, 1) := by decide +kernel
theorem dX12_partNumber_135 : decode cX12_partNumber 135 = .ok (.ifCond .eq 9, 3) := by decide +kernel
theorem dX12_partNumber_138 : decode cX12_partNumber 138 = .ok (.iload 4, 2) := by decide +kernel
theorem dX12_partNumber_140 : decode cX12_partNumber 140 = .ok (.ineg, 1) := by decide +kernel
theorem dX12_partNumber_141 : decode cX12_partNumber 141 = .ok (.goto 5, 3) := by decide +kernel
theorem dX12_partNumber_144 : decode cX12_partNumber 144 = .ok (.iload 4, 2) := by decide +kernel
theorem dX12_partNumber_146 : decode cX12_partNumber 146 = .ok (.iastore, 1) := by decide +kernel
theorem dX12_partNumber_147 : decode cX12_partNumber 147 = .ok (.aload_n 0, 1) := by decide +kernel
theorem dX12_partNumber_148 : decode cX12_partNumber 148 = .ok (.iload_n 2, 1) := by decide +kernel
theorem dX12_partNumber_149 : decode cX12_partNumber 149 = .ok (.invokevirtual 200, 3) := by decide +kernel
theorem dX12_partNumber_152 : decode cX12_partNumber 152 = .ok (.return_, 1) := by decide +kernel
theorem dX12_endPart_0 : decode cX12_endPart 0 = .ok (.aload_n 0, 1) := by decide +kernel
theorem dX12_endPart_1 : decode cX12_endPart 1 = .ok (.getfield 144, 3) := by decide +kernel
theorem dX12_endPart_4 : decode cX12_endPart 4 = .ok (.iload_n 1, 1) := by decide +kernel
theorem dX12_endPart_5 : decode cX12_endPart 5 = .ok (.iaload, 1) := by decide +kernel
theorem dX12_endPart_6 : decode cX12_endPart 6 = .ok (.istore_n 3, 1) := by decide +kernel
theorem dX12_endPart_7 : decode cX12_endPart 7 = .ok (.aload_n 0, 1) := by decide +kernel
theorem dX12_endPart_8 : decode cX12_endPart 8 = .ok (.getfield 147, 3) := by decide +kernel
theorem dX12_endPart_11 : decode cX12_endPart 11 = .ok (.iload_n 1, 1) := by decide +kernel
theorem dX12_endPart_12 : decode cX12_endPart 12 = .ok (.iaload, 1) := by decide +kernel
theorem dX12_endPart_13 : decode cX12_endPart 13 = .ok (.bipush 91, 2) := by decide +kernel
theorem dX12_endPart_15 : decode cX12_endPart 15 = .ok (.if_icmp .ne 47, 3) := by decide +kernel
theorem dX12_endPart_18 : decode cX12_endPart 18 = .ok (.aload_n 0, 1) := by decide +kernel
theorem dX12_endPart_19 : decode cX12_endPart 19 = .ok (.iload_n 3, 1) := by decide +kernel
theorem dX12_endPart_20 : decode cX12_endPart 20 = .ok (.aload_n 0, 1) := by decide +kernel
theorem dX12_endPart_21 : decode cX12_endPart 21 = .ok (.getfield 153, 3) := by decide +kernel
theorem dX12_endPart_24 : decode cX12_endPart 24 = .ok (.invokevirtual 207, 3) := by decide +kernel
theorem dX12_endPart_27 : decode cX12_endPart 27 = .ok (.aload_n 0, 1) := by decide +kernel
theorem dX12_endPart_28 : decode cX12_endPart 28 = .ok (.getfield 14, 3) := by decide +kernel
theorem dX12_endPart_31 : decode cX12_endPart 31 = .ok (.iload_n 3, 1) := by decide +kernel
theorem dX12_endPart_32 : decode cX12_endPart 32 = .ok (.dup2, 1) := by decide +kernel
theorem dX12_endPart_33 : decode cX12_endPart 33 = .ok (.iaload, 1) := by decide +kernel
theorem dX12_endPart_34 : decode cX12_endPart 34 = .ok (.iconst 1, 1) := by decide +kernel
theorem dX12_endPart_35 : decode cX12_endPart 35 = .ok (.iadd, 1) := by decide +kernel
theorem dX12_endPart_36 : decode cX12_endPart 36 = .ok (.iastore, 1) := by decide +kernel
theorem dX12_endPart_37 : decode cX12_endPart 37 = .ok (.iload_n 2, 1) := by decide +kernel
theorem dX12_endPart_38 : decode cX12_endPart 38 = .ok (.bipush 44, 2) := by decide +kernel
theorem dX12_endPart_40 : decode cX12_endPart 40 = .ok (.if_icmp .ne 22, 3) := by decide +kernel
theorem dX12_endPart_43 : decode cX12_endPart 43 = .ok (.aload_n 0, 1) := by decide +kernel
theorem dX12_endPart_44 : decode cX12_endPart 44 = .ok (.dup, 1) := by decide +kernel
theorem dX12_endPart_45 : decode cX12_endPart 45 = .ok (.getfield 240, 3) := by decide +kernel
theorem dX12_endPart_48 : decode cX12_endPart 48 = .ok (.iconst 1, 1) := by decide +kernel
theorem dX12_endPart_49 : decode cX12_endPart 49 = .ok (.iadd, 1) := by decide +kernel
theorem dX12_endPart_50 : decode cX12_endPart 50 = .ok (.putfield 240, 3) := by decide +kernel
theorem dX12_endPart_53 : decode cX12_endPart 53 = .ok (.aload_n 0, 1) := by decide +kernel
theorem dX12_endPart_54 : decode cX12_endPart 54 = .ok (.bipush 10, 2) := by decide +kernel
theorem dX12_endPart_56 : decode cX12_endPart 56 = .ok (.iconst (-1), 1) := by decide +kernel
theorem dX12_endPart_57 : decode cX12_endPart 57 = .ok (.iconst 0, 1) := by decide +kernel
theorem dX12_endPart_58 : decode cX12_endPart 58 = .ok (.invokevirtual 159, 3) := by decide +kernel
theorem dX12_endPart_61 : decode cX12_endPart 61 = .ok (.return_, 1) := by decide +kernel
theorem dX12_endPart_62 : decode cX12_endPart 62 = .ok (.iload_n 2, 1) := by decide +kernel
theorem dX12_endPart_63 : decode cX12_endPart 63 = .ok (.aload_n 0, 1) := by decide +kernel
theorem dX12_endPart_64 : decode cX12_endPart 64 = .ok (.getfield 147, 3) := by decide +kernel
theorem dX12_endPart_67 : decode cX12_endPart 67 = .ok (.iload_n 1, 1) := by decide +kernel
theorem dX12_endPart_68 : decode cX12_endPart 68 = .ok (.iaload, 1) := by decide +kernel
theorem dX12_endPart_69 : decode cX12_endPart 69 = .ok (.bipush 91, 2) := by decide +kernel
theorem dX12_endPart_71 : decode cX12_endPart 71 = .ok (.if_icmp .ne 8, 3) := by decide +kernel
theorem dX12_endPart_74 : decode cX12_endPart 74 = .ok (.bipush 93, 2) := by decide +kernel
theorem dX12_endPart_76 : decode cX12_endPart 76 = .ok (.goto 21, 3) := by decide +kernel
theorem dX12_endPart_79 : decode cX12_endPart 79 = .ok (.aload_n 0, 1) := by decide +kernel
theorem dX12_endPart_80 : decode cX12_endPart 80 = .ok (.getfield 147, 3) := by decide +kernel
theorem dX12_endPart_83 : decode cX12_endPart 83 = .ok (.iload_n 1, 1) := by decide +kernel
theorem dX12_endPart_84 : decode cX12_endPart 84 = .ok (.iaload, 1) := by decide +kernel
theorem dX12_endPart_85 : decode cX12_endPart 85 = .ok (.bipush 60, 2) := by decide +kernel
theorem dX12_endPart_87 : decode cX12_endPart 87 = .ok (.if_icmp .ne 8, 3) := by decide +kernel
theorem dX12_endPart_90 : decode cX12_endPart 90 = .ok (.bipush 62, 2) := by decide +kernel
theorem dX12_endPart_92 : decode cX12_endPart 92 = .ok (.goto 5, 3) := by decide +kernel
theorem dX12_endPart_95 : decode cX12_endPart 95 = .ok (.bipush 125, 2) := by decide +kernel
theorem dX12_endPart_97 : decode cX12_endPart 97 = .ok (.if_icmp .eq 13, 3) := by decide +kernel
theorem dX12_endPart_100 : decode cX12_endPart 100 = .ok (.aload_n 0, 1) := by decide +kernel
theorem dX12_endPart_101 : decode cX12_endPart 101 = .ok (.iconst 1, 1) := by decide +kernel
theorem dX12_endPart_102 : decode cX12_endPart 102 = .ok (.aload_n 0, 1) := by decide +kernel
theorem dX12_endPart_103 : decode cX12_endPart 103 = .ok (.getfield 240, 3) := by decide +kernel
theorem dX12_endPart_106 : decode cX12_endPart 106 = .ok (.invokevirtual 237, 3) := by decide +kernel
theorem dX12_endPart_109 : decode cX12_endPart 109 = .ok (.return_, 1) := by decide +kernel
theorem dX12_endPart_110 : decode cX12_endPart 110 = .ok (.aload_n 0, 1) := by decide +kernel
theorem dX12_endPart_111 : decode cX12_endPart 111 = .ok (.dup, 1) := by decide +kernel
theorem dX12_endPart_112 : decode cX12_endPart 112 = .ok (.getfield 240, 3) := by decide +kernel
theorem dX12_endPart_115 : decode cX12_endPart 115 = .ok (.iconst 1, 1) := by decide +kernel
theorem dX12_endPart_116 : decode cX12_endPart 116 = .ok (.iadd, 1) := by decide +kernel
theorem dX12_endPart_117 : decode cX12_endPart 117 = .ok (.putfield 240, 3) := by decide +kernel
theorem dX12_endPart_120 : decode cX12_endPart 120 = .ok (.aload_n 0, 1) := by decide +kernel
theorem dX12_endPart_121 : decode cX12_endPart 121 = .ok (.dup, 1) := by decide +kernel
theorem dX12_endPart_122 : decode cX12_endPart 122 = .ok (.getfield 156, 3) := by decide +kernel
theorem dX12_endPart_125 : decode cX12_endPart 125 = .ok (.iconst 1, 1) := by decide +kernel
theorem dX12_endPart_126 : decode cX12_endPart 126 = .ok (.isub, 1) := by decide +kernel
theorem dX12_endPart_127 : decode cX12_endPart 127 = .ok (.putfield 156, 3) := by decide +kernel
theorem dX12_endPart_130 : decode cX12_endPart 130 = .ok (.aload_n 0, 1) := by decide +kernel
theorem dX12_endPart_131 : decode cX12_endPart 131 = .ok (.getfield 147, 3) := by decide +kernel
theorem dX12_endPart_134 : decode cX12_endPart 134 = .ok (.iload_n 1, 1) := by decide +kernel
theorem dX12_endPart_135 : decode cX12_endPart 135 = .ok (.iaload, 1) := by decide +kernel
theorem dX12_endPart_136 : decode cX12_endPart 136 = .ok (.bipush 123, 2) := by decide +kernel
theorem dX12_endPart_138 : decode cX12_endPart 138 = .ok (.if_icmp .ne 29, 3) := by decide +kernel
theorem dX12_endPart_141 : decode cX12_endPart 141 = .ok (.aload_n 0, 1) := by decide +kernel
theorem dX12_endPart_142 : decode cX12_endPart 142 = .ok (.bipush 37, 2) := by decide +kernel
theorem dX12_endPart_144 : decode cX12_endPart 144 = .ok (.invokevirtual 276, 3) := by decide +kernel
theorem dX12_endPart_147 : decode cX12_endPart 147 = .ok (.aload_n 0, 1) := by decide +kernel
theorem dX12_endPart_148 : decode cX12_endPart 148 = .ok (.getfield 41, 3) := by decide +kernel
theorem dX12_endPart_151 : decode cX12_endPart 151 = .ok (.ifCond .ne 16, 3) := by decide +kernel
theorem dX12_endPart_154 : decode cX12_endPart 154 = .ok (.aload_n 0, 1) := by decide +kernel
theorem dX12_endPart_155 : decode cX12_endPart 155 = .ok (.getfield 14, 3) := by decide +kernel
theorem dX12_endPart_158 : decode cX12_endPart 158 = .ok (.iload_n 3, 1) := by decide +kernel
theorem dX12_endPart_159 : decode cX12_endPart 159 = .ok (.aload_n 0, 1) := by decide +kernel
theorem dX12_endPart_160 : decode cX12_endPart 160 = .ok (.iconst 1, 1) := by decide +kernel
theorem dX12_endPart_161 : decode cX12_endPart 161 = .ok (.bipush 32, 2) := by decide +kernel
theorem dX12_endPart_163 : decode cX12_endPart 163 = .ok (.invokevirtual 270, 3) := by decide +kernel
theorem dX12_endPart_166 : decode cX12_endPart 166 = .ok (.iastore, 1) := by decide +kernel
theorem dX12_endPart_167 : decode cX12_endPart 167 = .ok (.aload_n 0, 1) := by decide +kernel
theorem dX12_endPart_168 : decode cX12_endPart 168 = .ok (.aload_n 0, 1) := by decide +kernel
theorem dX12_endPart_169 : decode cX12_endPart 169 = .ok (.getfield 7, 3) := by decide +kernel
theorem dX12_endPart_172 : decode cX12_endPart 172 = .ok (.iload_n 3, 1) := by decide +kernel
theorem dX12_endPart_173 : decode cX12_endPart 173 = .ok (.iaload, 1) := by decide +kernel
theorem dX12_endPart_174 : decode cX12_endPart 174 = .ok (.bipush 25, 2) := by decide +kernel
theorem dX12_endPart_176 : decode cX12_endPart 176 = .ok (.if_icmp .ne 22, 3) := by decide +kernel
theorem dX12_endPart_179 : decode cX12_endPart 179 = .ok (.aload_n 0, 1) := by decide +kernel
theorem dX12_endPart_180 : decode cX12_endPart 180 = .ok (.getfield 14, 3) := by decide +kernel
theorem dX12_endPart_183 : decode cX12_endPart 183 = .ok (.iload_n 3, 1) := by decide +kernel
theorem dX12_endPart_184 : decode cX12_endPart 184 = .ok (.iaload, 1) := by decide +kernel
theorem dX12_endPart_185 : decode cX12_endPart 185 = .ok (.iconst 1, 1) := by decide +kernel
theorem dX12_endPart_186 : decode cX12_endPart 186 = .ok (.if_icmp .ne 12, 3) := by decide +kernel
theorem dX12_endPart_189 : decode cX12_endPart 189 = .ok (.aload_n 0, 1) := by decide +kernel
theorem dX12_endPart_190 : decode cX12_endPart 190 = .ok (.getfield 29, 3) := by decide +kernel
theorem dX12_endPart_193 : decode cX12_endPart 193 = .ok (.iload_n 3, 1) := by decide +kernel
theorem dX12_endPart_194 : decode cX12_endPart 194 = .ok (.iaload, 1) := by decide +kernel
theorem dX12_endPart_195 : decode cX12_endPart 195 = .ok (.goto 4, 3) := by decide +kernel
theorem dX12_endPart_198 : decode cX12_endPart 198 = .ok (.iload_n 3, 1) := by decide +kernel
theorem dX12_endPart_199 : decode cX12_endPart 199 = .ok (.invokevirtual 200, 3) := by decide +kernel
theorem dX12_endPart_202 : decode cX12_endPart 202 = .ok (.return_, 1) := by decide +kernel
theorem dX12_task_0 : decode cX12_task 0 = .ok (.aload_n 0, 1) := by decide +kernel
theorem dX12_task_1 : decode cX12_task 1 = .ok (.getfield 285, 3) := by decide +kernel
theorem dX12_task_4 : decode cX12_task 4 = .ok (.aload_n 0, 1) := by decide +kernel
theorem dX12_task_5 : decode cX12_task 5 = .ok (.getfield 288, 3) := by decide +kernel
theorem dX12_task_8 : decode cX12_task 8 = .ok (.iload_n 1, 1) := by decide +kernel
theorem dX12_task_9 : decode cX12_task 9 = .ok (.iastore, 1) := by decide +kernel
theorem dX12_task_10 : decode cX12_task 10 = .ok (.aload_n 0, 1) := by decide +kernel
theorem dX12_task_11 : decode cX12_task 11 = .ok (.getfield 291, 3) := by decide +kernel
theorem dX12_task_14 : decode cX12_task 14 = .ok (.aload_n 0, 1) := by decide +kernel
theorem dX12_task_15 : decode cX12_task 15 = .ok (.getfield 288, 3) := by decide +kernel
theorem dX12_task_18 : decode cX12_task 18 = .ok (.iload_n 2, 1) := by decide +kernel
theorem dX12_task_19 : decode cX12_task 19 = .ok (.iastore, 1) := by decide +kernel
theorem dX12_task_20 : decode cX12_task 20 = .ok (.aload_n 0, 1) := by decide +kernel
theorem dX12_task_21 : decode cX12_task 21 = .ok (.dup, 1) := by decide +kernel
theorem dX12_task_22 : decode cX12_task 22 = .ok (.getfield 288, 3) := by decide +kernel
theorem dX12_task_25 : decode cX12_task 25 = .ok (.iconst 1, 1) := by decide +kernel
theorem dX12_task_26 : decode cX12_task 26 = .ok (.iadd, 1) := by decide +kernel
theorem dX12_task_27 : decode cX12_task 27 = .ok (.putfield 288, 3) := by decide +kernel
theorem dX12_task_30 : decode cX12_task 30 = .ok (.return_, 1) := by decide +kernel
theorem dX12_push_0 : decode cX12_push 0 = .ok (.aload_n 0, 1) := by decide +kernel
theorem dX12_push_1 : decode cX12_push 1 = .ok (.getfield 294, 3) := by decide +kernel
theorem dX12_push_4 : decode cX12_push 4 = .ok (.aload_n 0, 1) := by decide +kernel
theorem dX12_push_5 : decode cX12_push 5 = .ok (.getfield 297, 3) := by decide +kernel
theorem dX12_push_8 : decode cX12_push 8 = .ok (.iload_n 1, 1) := by decide +kernel
theorem dX12_push_9 : decode cX12_push 9 = .ok (.iastore, 1) := by decide +kernel
theorem dX12_push_10 : decode cX12_push 10 = .ok (.aload_n 0, 1) := by decide +kernel
theorem dX12_push_11 : decode cX12_push 11 = .ok (.dup, 1) := by decide +kernel
theorem dX12_push_12 : decode cX12_push 12 = .ok (.getfield 297, 3) := by decide +kernel
theorem dX12_push_15 : decode cX12_push 15 = .ok (.iconst 1, 1) := by decide +kernel
theorem dX12_push_16 : decode cX12_push 16 = .ok (.iadd, 1) := by decide +kernel
theorem dX12_push_17 : decode cX12_push 17 = .ok (.putfield 297, 3) := by decide +kernel
theorem dX12_push_20 : decode cX12_push 20 = .ok (.return_, 1) := by decide +kernel
theorem dX12_pop_0 : decode cX12_pop 0 = .ok (.aload_n 0, 1) := by decide +kernel
theorem dX12_pop_1 : decode cX12_pop 1 = .ok (.dup, 1) := by decide +kernel
theorem dX12_pop_2 : decode cX12_pop 2 = .ok (.getfield 297, 3) := by decide +kernel
theorem dX12_pop_5 : decode cX12_pop 5 = .ok (.iconst 1, 1) := by decide +kernel
theorem dX12_pop_6 : decode cX12_pop 6 = .ok (.isub, 1) := by decide +kernel
theorem dX12_pop_7 : decode cX12_pop 7 = .ok (.putfield 297, 3) := by decide +kernel
theorem dX12_pop_10 : decode cX12_pop 10 = .ok (.aload_n 0, 1) := by decide +kernel
theorem dX12_pop_11 : decode cX12_pop 11 = .ok (.getfield 294, 3) := by decide +kernel
theorem dX12_pop_14 : decode cX12_pop 14 = .ok (.aload_n 0, 1) := by decide +kernel
theorem dX12_pop_15 : decode cX12_pop 15 = .ok (.getfield 297, 3) := by decide +kernel
theorem dX12_pop_18 : decode cX12_pop 18 = .ok (.iaload, 1) := by decide +kernel
theorem dX12_pop_19 : decode cX12_pop 19 = .ok (.ireturn, 1) := by decide +kernel
theorem dX12_spot_0 : decode cX12_spot 0 = .ok (.aload_n 0, 1) := by decide +kernel
theorem dX12_spot_1 : decode cX12_spot 1 = .ok (.getfield 300, 3) := by decide +kernel
theorem dX12_spot_4 : decode cX12_spot 4 = .ok (.ifCond .le 10, 3) := by decide +kernel
theorem dX12_spot_7 : decode cX12_spot 7 = .ok (.aload_n 0, 1) := by decide +kernel
theorem dX12_spot_8 : decode cX12_spot 8 = .ok (.getfield 303, 3) := by decide +kernel
theorem dX12_spot_11 : decode cX12_spot 11 = .ok (.goto 4, 3) := by decide +kernel
theorem dX12_spot_14 : decode cX12_spot 14 = .ok (.iload_n 1, 1) := by decide +kernel
theorem dX12_spot_15 : decode cX12_spot 15 = .ok (.ireturn, 1) := by decide +kernel
theorem dX12_counts_0 : decode cX12_counts 0 = .ok (.iconst 0, 1) := by decide +kernel
theorem dX12_counts_1 : decode cX12_counts 1 = .ok (.istore_n 3, 1) := by decide +kernel
theorem dX12_counts_2 : decode cX12_counts 2 = .ok (.iload_n 3, 1) := by decide +kernel
theorem dX12_counts_3 : decode cX12_counts 3 = .ok (.iload_n 2, 1) := by decide +kernel
theorem dX12_counts_4 : decode cX12_counts 4 = .ok (.if_icmp .ge 49, 3) := by decide +kernel
theorem dX12_counts_7 : decode cX12_counts 7 = .ok (.aload_n 0, 1) := by decide +kernel
theorem dX12_counts_8 : decode cX12_counts 8 = .ok (.getfield 41, 3) := by decide +kernel
theorem dX12_counts_11 : decode cX12_counts 11 = .ok (.ifCond .ne 42, 3) := by decide +kernel
theorem dX12_counts_14 : decode cX12_counts 14 = .ok (.aload_n 0, 1) := by decide +kernel
theorem dX12_counts_15 : decode cX12_counts 15 = .ok (.getfield 306, 3) := by decide +kernel
theorem dX12_counts_18 : decode cX12_counts 18 = .ok (.sipush 200, 3) := by decide +kernel
theorem dX12_counts_21 : decode cX12_counts 21 = .ok (.if_icmp .ne 16, 3) := by decide +kernel
theorem dX12_counts_24 : decode cX12_counts 24 = .ok (.aload_n 0, 1) := by decide +kernel
theorem dX12_counts_25 : decode cX12_counts 25 = .ok (.iconst 5, 1) := by decide +kernel
theorem dX12_counts_26 : decode cX12_counts 26 = .ok (.aload_n 0, 1) := by decide +kernel
theorem dX12_counts_27 : decode cX12_counts 27 = .ok (.iload_n 1, 1) := by decide +kernel
theorem dX12_counts_28 : decode cX12_counts 28 = .ok (.invokevirtual 309, 3) := by decide +kernel
theorem dX12_counts_31 : decode cX12_counts 31 = .ok (.invokevirtual 237, 3) := by decide +kernel
theorem dX12_counts_34 : decode cX12_counts 34 = .ok (.goto 13, 3) := by decide +kernel
theorem dX12_counts_37 : decode cX12_counts 37 = .ok (.aload_n 0, 1) := by decide +kernel
theorem dX12_counts_38 : decode cX12_counts 38 = .ok (.dup, 1) := by decide +kernel
