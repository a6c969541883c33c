theorem dX12_beat_183 : decode cX12_beat 183 = .ok (.iload 5, 2) := by decide +kernel
theorem dX12_beat_185 : decode cX12_beat 185 = .ok (.laload, 1) := by decide +kernel
theorem dX12_beat_186 : decode cX12_beat 186 = .ok (.aload_n 0, 1) := by decide +kernel
theorem dX12_beat_187 : decode cX12_beat 187 = .ok (.getfield 554, 3) := by decide +kernel
theorem dX12_beat_190 : decode cX12_beat 190 = .ok (.iload 5, 2) := by decide +kernel
theorem dX12_beat_192 : decode cX12_beat 192 = .ok (.laload, 1) := by decide +kernel
theorem dX12_beat_193 : decode cX12_beat 193 = .ok (.lsub, 1) := by decide +kernel
theorem dX12_beat_194 : decode cX12_beat 194 = .ok (.lastore, 1) := by decide +kernel
theorem dX12_beat_195 : decode cX12_beat 195 = .ok (.aload_n 0, 1) := by decide +kernel
theorem dX12_beat_196 : decode cX12_beat 196 = .ok (.getfield 792, 3) := by decide +kernel
theorem dX12_beat_199 : decode cX12_beat 199 = .ok (.aload_n 0, 1) := by decide +kernel
theorem dX12_beat_200 : decode cX12_beat 200 = .ok (.getfield 873, 3) := by decide +kernel
theorem dX12_beat_203 : decode cX12_beat 203 = .ok (.aload_n 0, 1) := by decide +kernel
theorem dX12_beat_204 : decode cX12_beat 204 = .ok (.getfield 560, 3) := by decide +kernel
theorem dX12_beat_207 : decode cX12_beat 207 = .ok (.iload 5, 2) := by decide +kernel
theorem dX12_beat_209 : decode cX12_beat 209 = .ok (.iaload, 1) := by decide +kernel
theorem dX12_beat_210 : decode cX12_beat 210 = .ok (.iastore, 1) := by decide +kernel
theorem dX12_beat_211 : decode cX12_beat 211 = .ok (.aload_n 0, 1) := by decide +kernel
theorem dX12_beat_212 : decode cX12_beat 212 = .ok (.getfield 795, 3) := by decide +kernel
theorem dX12_beat_215 : decode cX12_beat 215 = .ok (.aload_n 0, 1) := by decide +kernel
theorem dX12_beat_216 : decode cX12_beat 216 = .ok (.getfield 873, 3) := by decide +kernel
theorem dX12_beat_219 : decode cX12_beat 219 = .ok (.aload_n 0, 1) := by decide +kernel
theorem dX12_beat_220 : decode cX12_beat 220 = .ok (.getfield 563, 3) := by decide +kernel
theorem dX12_beat_223 : decode cX12_beat 223 = .ok (.iload 5, 2) := by decide +kernel
theorem dX12_beat_225 : decode cX12_beat 225 = .ok (.iaload, 1) := by decide +kernel
theorem dX12_beat_226 : decode cX12_beat 226 = .ok (.iastore, 1) := by decide +kernel
theorem dX12_beat_227 : decode cX12_beat 227 = .ok (.aload_n 0, 1) := by decide +kernel
theorem dX12_beat_228 : decode cX12_beat 228 = .ok (.getfield 798, 3) := by decide +kernel
theorem dX12_beat_231 : decode cX12_beat 231 = .ok (.aload_n 0, 1) := by decide +kernel
theorem dX12_beat_232 : decode cX12_beat 232 = .ok (.getfield 873, 3) := by decide +kernel
theorem dX12_beat_235 : decode cX12_beat 235 = .ok (.aload_n 0, 1) := by decide +kernel
theorem dX12_beat_236 : decode cX12_beat 236 = .ok (.getfield 566, 3) := by decide +kernel
theorem dX12_beat_239 : decode cX12_beat 239 = .ok (.iload 5, 2) := by decide +kernel
theorem dX12_beat_241 : decode cX12_beat 241 = .ok (.iaload, 1) := by decide +kernel
theorem dX12_beat_242 : decode cX12_beat 242 = .ok (.iastore, 1) := by decide +kernel
theorem dX12_beat_243 : decode cX12_beat 243 = .ok (.aload_n 0, 1) := by decide +kernel
theorem dX12_beat_244 : decode cX12_beat 244 = .ok (.getfield 801, 3) := by decide +kernel
theorem dX12_beat_247 : decode cX12_beat 247 = .ok (.aload_n 0, 1) := by decide +kernel
theorem dX12_beat_248 : decode cX12_beat 248 = .ok (.getfield 873, 3) := by decide +kernel
theorem dX12_beat_251 : decode cX12_beat 251 = .ok (.aload_n 0, 1) := by decide +kernel
theorem dX12_beat_252 : decode cX12_beat 252 = .ok (.getfield 569, 3) := by decide +kernel
theorem dX12_beat_255 : decode cX12_beat 255 = .ok (.iload 5, 2) := by decide +kernel
theorem dX12_beat_257 : decode cX12_beat 257 = .ok (.iaload, 1) := by decide +kernel
theorem dX12_beat_258 : decode cX12_beat 258 = .ok (.iastore, 1) := by decide +kernel
theorem dX12_beat_259 : decode cX12_beat 259 = .ok (.aload_n 0, 1) := by decide +kernel
theorem dX12_beat_260 : decode cX12_beat 260 = .ok (.dup, 1) := by decide +kernel
theorem dX12_beat_261 : decode cX12_beat 261 = .ok (.getfield 873, 3) := by decide +kernel
theorem dX12_beat_264 : decode cX12_beat 264 = .ok (.iconst 1, 1) := by decide +kernel
theorem dX12_beat_265 : decode cX12_beat 265 = .ok (.iadd, 1) := by decide +kernel
theorem dX12_beat_266 : decode cX12_beat 266 = .ok (.putfield 873, 3) := by decide +kernel
theorem dX12_beat_269 : decode cX12_beat 269 = .ok (.iinc 5 1, 3) := by decide +kernel
theorem dX12_beat_272 : decode cX12_beat 272 = .ok (.goto (-216), 3) := by decide +kernel
theorem dX12_beat_275 : decode cX12_beat 275 = .ok (.iinc 3 1, 3) := by decide +kernel
theorem dX12_beat_278 : decode cX12_beat 278 = .ok (.goto (-271), 3) := by decide +kernel
theorem dX12_beat_281 : decode cX12_beat 281 = .ok (.aload_n 0, 1) := by decide +kernel
theorem dX12_beat_282 : decode cX12_beat 282 = .ok (.invokevirtual 884, 3) := by decide +kernel
theorem dX12_beat_285 : decode cX12_beat 285 = .ok (.iconst 0, 1) := by decide +kernel
theorem dX12_beat_286 : decode cX12_beat 286 = .ok (.istore_n 3, 1) := by decide +kernel
theorem dX12_beat_287 : decode cX12_beat 287 = .ok (.iload_n 3, 1) := by decide +kernel
theorem dX12_beat_288 : decode cX12_beat 288 = .ok (.aload_n 0, 1) := by decide +kernel
theorem dX12_beat_289 : decode cX12_beat 289 = .ok (.getfield 873, 3) := by decide +kernel
theorem dX12_beat_292 : decode cX12_beat 292 = .ok (.if_icmp .ge 29, 3) := by decide +kernel
theorem dX12_beat_295 : decode cX12_beat 295 = .ok (.aload_n 0, 1) := by decide +kernel
theorem dX12_beat_296 : decode cX12_beat 296 = .ok (.getfield 887, 3) := by decide +kernel
theorem dX12_beat_299 : decode cX12_beat 299 = .ok (.sipush 400, 3) := by decide +kernel
theorem dX12_beat_302 : decode cX12_beat 302 = .ok (.if_icmp .ge 19, 3) := by decide +kernel
theorem dX12_beat_305 : decode cX12_beat 305 = .ok (.aload_n 0, 1) := by decide +kernel
theorem dX12_beat_306 : decode cX12_beat 306 = .ok (.aload_n 0, 1) := by decide +kernel
theorem dX12_beat_307 : decode cX12_beat 307 = .ok (.getfield 804, 3) := by decide +kernel
theorem dX12_beat_310 : decode cX12_beat 310 = .ok (.iload_n 3, 1) := by decide +kernel
theorem dX12_beat_311 : decode cX12_beat 311 = .ok (.iaload, 1) := by decide +kernel
theorem dX12_beat_312 : decode cX12_beat 312 = .ok (.invokevirtual 890, 3) := by decide +kernel
theorem dX12_beat_315 : decode cX12_beat 315 = .ok (.iinc 3 1, 3) := by decide +kernel
theorem dX12_beat_318 : decode cX12_beat 318 = .ok (.goto (-31), 3) := by decide +kernel
theorem dX12_beat_321 : decode cX12_beat 321 = .ok (.aload_n 0, 1) := by decide +kernel
theorem dX12_beat_322 : decode cX12_beat 322 = .ok (.getfield 873, 3) := by decide +kernel
theorem dX12_beat_325 : decode cX12_beat 325 = .ok (.ireturn, 1) := by decide +kernel
theorem dX12_arrange_0 : decode cX12_arrange 0 = .ok (.iconst 0, 1) := by decide +kernel
theorem dX12_arrange_1 : decode cX12_arrange 1 = .ok (.istore_n 1, 1) := by decide +kernel
theorem dX12_arrange_2 : decode cX12_arrange 2 = .ok (.iload_n 1, 1) := by decide +kernel
theorem dX12_arrange_3 : decode cX12_arrange 3 = .ok (.aload_n 0, 1) := by decide +kernel
theorem dX12_arrange_4 : decode cX12_arrange 4 = .ok (.getfield 873, 3) := by decide +kernel
theorem dX12_arrange_7 : decode cX12_arrange 7 = .ok (.if_icmp .ge 88, 3) := by decide +kernel
theorem dX12_arrange_10 : decode cX12_arrange 10 = .ok (.iload_n 1, 1) := by decide +kernel
theorem dX12_arrange_11 : decode cX12_arrange 11 = .ok (.istore_n 2, 1) := by decide +kernel
theorem dX12_arrange_12 : decode cX12_arrange 12 = .ok (.iload_n 2, 1) := by decide +kernel
theorem dX12_arrange_13 : decode cX12_arrange 13 = .ok (.ifCond .le 69, 3) := by decide +kernel
theorem dX12_arrange_16 : decode cX12_arrange 16 = .ok (.aload_n 0, 1) := by decide +kernel
theorem dX12_arrange_17 : decode cX12_arrange 17 = .ok (.getfield 786, 3) := by decide +kernel
theorem dX12_arrange_20 : decode cX12_arrange 20 = .ok (.aload_n 0, 1) := by decide +kernel
theorem dX12_arrange_21 : decode cX12_arrange 21 = .ok (.getfield 804, 3) := by decide +kernel
theorem dX12_arrange_24 : decode cX12_arrange 24 = .ok (.iload_n 2, 1) := by decide +kernel
theorem dX12_arrange_25 : decode cX12_arrange 25 = .ok (.iconst 1, 1) := by decide +kernel
theorem dX12_arrange_26 : decode cX12_arrange 26 = .ok (.isub, 1) := by decide +kernel
theorem dX12_arrange_27 : decode cX12_arrange 27 = .ok (.iaload, 1) := by decide +kernel
theorem dX12_arrange_28 : decode cX12_arrange 28 = .ok (.laload, 1) := by decide +kernel
theorem dX12_arrange_29 : decode cX12_arrange 29 = .ok (.aload_n 0, 1) := by decide +kernel
theorem dX12_arrange_30 : decode cX12_arrange 30 = .ok (.getfield 783, 3) := by decide +kernel
theorem dX12_arrange_33 : decode cX12_arrange 33 = .ok (.iload_n 1, 1) := by decide +kernel
theorem dX12_arrange_34 : decode cX12_arrange 34 = .ok (.iaload, 1) := by decide +kernel
theorem dX12_arrange_35 : decode cX12_arrange 35 = .ok (.i2l, 1) := by decide +kernel
theorem dX12_arrange_36 : decode cX12_arrange 36 = .ok (.lmul, 1) := by decide +kernel
theorem dX12_arrange_37 : decode cX12_arrange 37 = .ok (.aload_n 0, 1) := by decide +kernel
theorem dX12_arrange_38 : decode cX12_arrange 38 = .ok (.getfield 786, 3) := by decide +kernel
theorem dX12_arrange_41 : decode cX12_arrange 41 = .ok (.iload_n 1, 1) := by decide +kernel
theorem dX12_arrange_42 : decode cX12_arrange 42 = .ok (.laload, 1) := by decide +kernel
theorem dX12_arrange_43 : decode cX12_arrange 43 = .ok (.aload_n 0, 1) := by decide +kernel
theorem dX12_arrange_44 : decode cX12_arrange 44 = .ok (.getfield 783, 3) := by decide +kernel
theorem dX12_arrange_47 : decode cX12_arrange 47 = .ok (.aload_n 0, 1) := by decide +kernel
theorem dX12_arrange_48 : decode cX12_arrange 48 = .ok (.getfield 804, 3) := by decide +kernel
theorem dX12_arrange_51 : decode cX12_arrange 51 = .ok (.iload_n 2, 1) := by decide +kernel
theorem dX12_arrange_52 : decode cX12_arrange 52 = .ok (.iconst 1, 1) := by decide +kernel
theorem dX12_arrange_53 : decode cX12_arrange 53 = .ok (.isub, 1) := by decide +kernel
theorem dX12_arrange_54 : decode cX12_arrange 54 = .ok (.iaload, 1) := by decide +kernel
theorem dX12_arrange_55 : decode cX12_arrange 55 = .ok (.iaload, 1) := by decide +kernel
theorem dX12_arrange_56 : decode cX12_arrange 56 = .ok (.i2l, 1) := by decide +kernel
theorem dX12_arrange_57 : decode cX12_arrange 57 = .ok (.lmul, 1) := by decide +kernel
theorem dX12_arrange_58 : decode cX12_arrange 58 = .ok (.lcmp, 1) := by decide +kernel
theorem dX12_arrange_59 : decode cX12_arrange 59 = .ok (.ifCond .le 23, 3) := by decide +kernel
theorem dX12_arrange_62 : decode cX12_arrange 62 = .ok (.aload_n 0, 1) := by decide +kernel
theorem dX12_arrange_63 : decode cX12_arrange 63 = .ok (.getfield 804, 3) := by decide +kernel
theorem dX12_arrange_66 : decode cX12_arrange 66 = .ok (.iload_n 2, 1) := by decide +kernel
theorem dX12_arrange_67 : decode cX12_arrange 67 = .ok (.aload_n 0, 1) := by decide +kernel
theorem dX12_arrange_68 : decode cX12_arrange 68 = .ok (.getfield 804, 3) := by decide +kernel
theorem dX12_arrange_71 : decode cX12_arrange 71 = .ok (.iload_n 2, 1) := by decide +kernel
theorem dX12_arrange_72 : decode cX12_arrange 72 = .ok (.iconst 1, 1) := by decide +kernel
theorem dX12_arrange_73 : decode cX12_arrange 73 = .ok (.isub, 1) := by decide +kernel
theorem dX12_arrange_74 : decode cX12_arrange 74 = .ok (.iaload, 1) := by decide +kernel
theorem dX12_arrange_75 : decode cX12_arrange 75 = .ok (.iastore, 1) := by decide +kernel
theorem dX12_arrange_76 : decode cX12_arrange 76 = .ok (.iinc 2 (-1), 3) := by decide +kernel
theorem dX12_arrange_79 : decode cX12_arrange 79 = .ok (.goto (-67), 3) := by decide +kernel
theorem dX12_arrange_82 : decode cX12_arrange 82 = .ok (.aload_n 0, 1) := by decide +kernel
theorem dX12_arrange_83 : decode cX12_arrange 83 = .ok (.getfield 804, 3) := by decide +kernel
theorem dX12_arrange_86 : decode cX12_arrange 86 = .ok (.iload_n 2, 1) := by decide +kernel
theorem dX12_arrange_87 : decode cX12_arrange 87 = .ok (.iload_n 1, 1) := by decide +kernel
theorem dX12_arrange_88 : decode cX12_arrange 88 = .ok (.iastore, 1) := by decide +kernel
theorem dX12_arrange_89 : decode cX12_arrange 89 = .ok (.iinc 1 1, 3) := by decide +kernel
theorem dX12_arrange_92 : decode cX12_arrange 92 = .ok (.goto (-90), 3) := by decide +kernel
theorem dX12_arrange_95 : decode cX12_arrange 95 = .ok (.return_, 1) := by decide +kernel
theorem dX12_hear_0 : decode cX12_hear 0 = .ok (.aload_n 0, 1) := by decide +kernel
theorem dX12_hear_1 : decode cX12_hear 1 = .ok (.getfield 753, 3) := by decide +kernel
theorem dX12_hear_4 : decode cX12_hear 4 = .ok (.aload_n 0, 1) := by decide +kernel
theorem dX12_hear_5 : decode cX12_hear 5 = .ok (.getfield 887, 3) := by decide +kernel
theorem dX12_hear_8 : decode cX12_hear 8 = .ok (.aload_n 0, 1) := by decide +kernel
theorem dX12_hear_9 : decode cX12_hear 9 = .ok (.getfield 780, 3) := by decide +kernel
theorem dX12_hear_12 : decode cX12_hear 12 = .ok (.iload_n 1, 1) := by decide +kernel
theorem dX12_hear_13 : decode cX12_hear 13 = .ok (.iaload, 1) := by decide +kernel
theorem dX12_hear_14 : decode cX12_hear 14 = .ok (.iastore, 1) := by decide +kernel
theorem dX12_hear_15 : decode cX12_hear 15 = .ok (.aload_n 0, 1) := by decide +kernel
theorem dX12_hear_16 : decode cX12_hear 16 = .ok (.getfield 756, 3) := by decide +kernel
theorem dX12_hear_19 : decode cX12_hear 19 = .ok (.aload_n 0, 1) := by decide +kernel
theorem dX12_hear_20 : decode cX12_hear 20 = .ok (.getfield 887, 3) := by decide +kernel
theorem dX12_hear_23 : decode cX12_hear 23 = .ok (.aload_n 0, 1) := by decide +kernel
theorem dX12_hear_24 : decode cX12_hear 24 = .ok (.getfield 879, 3) := by decide +kernel
theorem dX12_hear_27 : decode cX12_hear 27 = .ok (.iastore, 1) := by decide +kernel
theorem dX12_hear_28 : decode cX12_hear 28 = .ok (.aload_n 0, 1) := by decide +kernel
theorem dX12_hear_29 : decode cX12_hear 29 = .ok (.getfield 759, 3) := by decide +kernel
theorem dX12_hear_32 : decode cX12_hear 32 = .ok (.aload_n 0, 1) := by decide +kernel
theorem dX12_hear_33 : decode cX12_hear 33 = .ok (.getfield 887, 3) := by decide +kernel
theorem dX12_hear_36 : decode cX12_hear 36 = .ok (.aload_n 0, 1) := by decide +kernel
theorem dX12_hear_37 : decode cX12_hear 37 = .ok (.getfield 783, 3) := by decide +kernel
theorem dX12_hear_40 : decode cX12_hear 40 = .ok (.iload_n 1, 1) := by decide +kernel
theorem dX12_hear_41 : decode cX12_hear 41 = .ok (.iaload, 1) := by decide +kernel
theorem dX12_hear_42 : decode cX12_hear 42 = .ok (.iastore, 1) := by decide +kernel
theorem dX12_hear_43 : decode cX12_hear 43 = .ok (.aload_n 0, 1) := by decide +kernel
theorem dX12_hear_44 : decode cX12_hear 44 = .ok (.getfield 762, 3) := by decide +kernel
theorem dX12_hear_47 : decode cX12_hear 47 = .ok (.aload_n 0, 1) := by decide +kernel
theorem dX12_hear_48 : decode cX12_hear 48 = .ok (.getfield 887, 3) := by decide +kernel
theorem dX12_hear_51 : decode cX12_hear 51 = .ok (.aload_n 0, 1) := by decide +kernel
theorem dX12_hear_52 : decode cX12_hear 52 = .ok (.getfield 786, 3) := by decide +kernel
theorem dX12_hear_55 : decode cX12_hear 55 = .ok (.iload_n 1, 1) := by decide +kernel
theorem dX12_hear_56 : decode cX12_hear 56 = .ok (.laload, 1) := by decide +kernel
theorem dX12_hear_57 : decode cX12_hear 57 = .ok (.lastore, 1) := by decide +kernel
theorem dX12_hear_58 : decode cX12_hear 58 = .ok (.aload_n 0, 1) := by decide +kernel
theorem dX12_hear_59 : decode cX12_hear 59 = .ok (.getfield 765, 3) := by decide +kernel
theorem dX12_hear_62 : decode cX12_hear 62 = .ok (.aload_n 0, 1) := by decide +kernel
theorem dX12_hear_63 : decode cX12_hear 63 = .ok (.getfield 887, 3) := by decide +kernel
theorem dX12_hear_66 : decode cX12_hear 66 = .ok (.aload_n 0, 1) := by decide +kernel
theorem dX12_hear_67 : decode cX12_hear 67 = .ok (.getfield 789, 3) := by decide +kernel
theorem dX12_hear_70 : decode cX12_hear 70 = .ok (.iload_n 1, 1) := by decide +kernel
theorem dX12_hear_71 : decode cX12_hear 71 = .ok (.laload, 1) := by decide +kernel
theorem dX12_hear_72 : decode cX12_hear 72 = .ok (.lastore, 1) := by decide +kernel
theorem dX12_hear_73 : decode cX12_hear 73 = .ok (.aload_n 0, 1) := by decide +kernel
theorem dX12_hear_74 : decode cX12_hear 74 = .ok (.getfield 768, 3) := by decide +kernel
theorem dX12_hear_77 : decode cX12_hear 77 = .ok (.aload_n 0, 1) := by decide +kernel
theorem dX12_hear_78 : decode cX12_hear 78 = .ok (.getfield 887, 3) := by decide +kernel
theorem dX12_hear_81 : decode cX12_hear 81 = .ok (.aload_n 0, 1) := by decide +kernel
theorem dX12_hear_82 : decode cX12_hear 82 = .ok (.getfield 792, 3) := by decide +kernel
theorem dX12_hear_85 : decode cX12_hear 85 = .ok (.iload_n 1, 1) := by decide +kernel
theorem dX12_hear_86 : decode cX12_hear 86 = .ok (.iaload, 1) := by decide +kernel
theorem dX12_hear_87 : decode cX12_hear 87 = .ok (.iastore, 1) := by decide +kernel
theorem dX12_hear_88 : decode cX12_hear 88 = .ok (.aload_n 0, 1) := by decide +kernel
theorem dX12_hear_89 : decode cX12_hear 89 = .ok (.getfield 771, 3) := by decide +kernel
theorem dX12_hear_92 : decode cX12_hear 92 = .ok (.aload_n 0, 1) := by decide +kernel
theorem dX12_hear_93 : decode cX12_hear 93 = .ok (.getfield 887, 3) := by decide +kernel
theorem dX12_hear_96 : decode cX12_hear 96 = .ok (.aload_n 0, 1) := by decide +kernel
theorem dX12_hear_97 : decode cX12_hear 97 = .ok (.getfield 795, 3) := by decide +kernel
theorem dX12_hear_100 : decode cX12_hear 100 = .ok (.iload_n 1, 1) := by decide +kernel
theorem dX12_hear_101 : decode cX12_hear 101 = .ok (.iaload, 1) := by decide +kernel
theorem dX12_hear_102 : decode cX12_hear 102 = .ok (.iastore, 1) := by decide +kernel
theorem dX12_hear_103 : decode cX12_hear 103 = .ok (.aload_n 0, 1) := by decide +kernel
theorem dX12_hear_104 : decode cX12_hear 104 = .ok (.getfield 774, 3) := by decide +kernel
theorem dX12_hear_107 : decode cX12_hear 107 = .ok (.aload_n 0, 1) := by decide +kernel
theorem dX12_hear_108 : decode cX12_hear 108 = .ok (.getfield 887, 3) := by decide +kernel
theorem dX12_hear_111 : decode cX12_hear 111 = .ok (.aload_n 0, 1) := by decide +kernel
theorem dX12_hear_112 : decode cX12_hear 112 = .ok (.getfield 798, 3) := by decide +kernel
theorem dX12_hear_115 : decode cX12_hear 115 = .ok (.iload_n 1, 1) := by decide +kernel
theorem dX12_hear_116 : decode cX12_hear 116 = .ok (.iaload, 1) := by decide +kernel
theorem dX12_hear_117 : decode cX12_hear 117 = .ok (.iastore, 1) := by decide +kernel
theorem dX12_hear_118 : decode cX12_hear 118 = .ok (.aload_n 0, 1) := by decide +kernel
theorem dX12_hear_119 : decode cX12_hear 119 = .ok (.getfield 777, 3) := by decide +kernel
theorem dX12_hear_122 : decode cX12_hear 122 = .ok (.aload_n 0, 1) := by decide +kernel
theorem dX12_hear_123 : decode cX12_hear 123 = .ok (.getfield 887, 3) := by decide +kernel
theorem dX12_hear_126 : decode cX12_hear 126 = .ok (.aload_n 0, 1) := by decide +kernel
theorem dX12_hear_127 : decode cX12_hear 127 = .ok (.getfield 801, 3) := by decide +kernel
theorem dX12_hear_130 : decode cX12_hear 130 = .ok (.iload_n 1, 1) := by decide +kernel
theorem dX12_hear_131 : decode cX12_hear 131 = .ok (.iaload, 1) := by decide +kernel
theorem dX12_hear_132 : decode cX12_hear 132 = .ok (.iastore, 1) := by decide +kernel
theorem dX12_hear_133 : decode cX12_hear 133 = .ok (.aload_n 0, 1) := by decide +kernel
theorem dX12_hear_134 : decode cX12_hear 134 = .ok (.dup, 1) := by decide +kernel
theorem dX12_hear_135 : decode cX12_hear 135 = .ok (.getfield 887, 3) := by decide +kernel
theorem dX12_hear_138 : decode cX12_hear 138 = .ok (.iconst 1, 1) := by decide +kernel
theorem dX12_hear_139 : decode cX12_hear 139 = .ok (.iadd, 1) := by decide +kernel
theorem dX12_hear_140 : decode cX12_hear 140 = .ok (.putfield 887, 3) := by decide +kernel
theorem dX12_hear_143 : decode cX12_hear 143 = .ok (.return_, 1) := by decide +kernel
theorem dX12_play_0 : decode cX12_play 0 = .ok (.iload_n 1, 1) := by decide +kernel
theorem dX12_play_1 : decode cX12_play 1 = .ok (.iconst 1, 1) := by decide +kernel
theorem dX12_play_2 : decode cX12_play 2 = .ok (.if_icmp .lt 10, 3) := by decide +kernel
theorem dX12_play_5 : decode cX12_play 5 = .ok (.iload_n 1, 1) := by decide +kernel
theorem dX12_play_6 : decode cX12_play 6 = .ok (.sipush 3840, 3) := by decide +kernel
theorem dX12_play_9 : decode cX12_play 9 = .ok (.if_icmp .le 5, 3) := by decide +kernel
theorem dX12_play_12 : decode cX12_play 12 = .ok (.iconst (-1), 1) := by decide +kernel
theorem dX12_play_13 : decode cX12_play 13 = .ok (.ireturn, 1) := by decide +kernel
theorem dX12_play_14 : decode cX12_play 14 = .ok (.aload_n 0, 1) := by decide +kernel
theorem dX12_play_15 : decode cX12_play 15 = .ok (.getfield 879, 3) := by decide +kernel
theorem dX12_play_18 : decode cX12_play 18 = .ok (.i2l, 1) := by decide +kernel
theorem dX12_play_19 : decode cX12_play 19 = .ok (.ldc2_w 882, 3) := by decide +kernel
theorem dX12_play_22 : decode cX12_play 22 = .ok (.lmul, 1) := by decide +kernel
theorem dX12_play_23 : decode cX12_play 23 = .ok (.aload_n 0, 1) := by decide +kernel
theorem dX12_play_24 : decode cX12_play 24 = .ok (.getfield 846, 3) := by decide +kernel
theorem dX12_play_27 : decode cX12_play 27 = .ok (.i2l, 1) := by decide +kernel
theorem dX12_play_28 : decode cX12_play 28 = .ok (.ladd, 1) := by decide +kernel
theorem dX12_play_29 : decode cX12_play 29 = .ok (.iload_n 1, 1) := by decide +kernel
theorem dX12_play_30 : decode cX12_play 30 = .ok (.i2l, 1) := by decide +kernel
theorem dX12_play_31 : decode cX12_play 31 = .ok (.ladd, 1) := by decide +kernel
theorem dX12_play_32 : decode cX12_play 32 = .ok (.lstore_n 2, 1) := by decide +kernel
theorem dX12_play_33 : decode cX12_play 33 = .ok (.lload_n 2, 1) := by decide +kernel
theorem dX12_play_34 : decode cX12_play 34 = .ok (.ldc2_w 893, 3) := by decide +kernel
theorem dX12_play_37 : decode cX12_play 37 = .ok (.lcmp, 1) := by decide +kernel
theorem dX12_play_38 : decode cX12_play 38 = .ok (.ifCond .le 5, 3) := by decide +kernel
theorem dX12_play_41 : decode cX12_play 41 = .ok (.iconst (-1), 1) := by decide +kernel
theorem dX12_play_42 : decode cX12_play 42 = .ok (.ireturn, 1) := by decide +kernel
theorem dX12_play_43 : decode cX12_play 43 = .ok (.aload_n 0, 1) := by decide +kernel
theorem dX12_play_44 : decode cX12_play 44 = .ok (.iconst 0, 1) := by decide +kernel
theorem dX12_play_45 : decode cX12_play 45 = .ok (.putfield 887, 3) := by decide +kernel
theorem dX12_play_48 : decode cX12_play 48 = .ok (.iload_n 1, 1) := by decide +kernel
theorem dX12_play_49 : decode cX12_play 49 = .ok (.istore 4, 2) := by decide +kernel
theorem dX12_play_51 : decode cX12_play 51 = .ok (.iconst 0, 1) := by decide +kernel
theorem dX12_play_52 : decode cX12_play 52 = .ok (.istore 5, 2) := by decide +kernel
theorem dX12_play_54 : decode cX12_play 54 = .ok (.iload 4, 2) := by decide +kernel
theorem dX12_play_56 : decode cX12_play 56 = .ok (.ifCond .le 104, 3) := by decide +kernel
theorem dX12_play_59 : decode cX12_play 59 = .ok (.iload 4, 2) := by decide +kernel
theorem dX12_play_61 : decode cX12_play 61 = .ok (.sipush 960, 3) := by decide +kernel
theorem dX12_play_64 : decode cX12_play 64 = .ok (.aload_n 0, 1) := by decide +kernel
theorem dX12_play_65 : decode cX12_play 65 = .ok (.getfield 846, 3) := by decide +kernel
theorem dX12_play_68 : decode cX12_play 68 = .ok (.isub, 1) := by decide +kernel
theorem dX12_play_69 : decode cX12_play 69 = .ok (.if_icmp .ge 8, 3) := by decide +kernel
theorem dX12_play_72 : decode cX12_play 72 = .ok (.iload 4, 2) := by decide +kernel
theorem dX12_play_74 : decode cX12_play 74 = .ok (.goto 11, 3) := by decide +kernel
theorem dX12_play_77 : decode cX12_play 77 = .ok (.sipush 960, 3) := by decide +kernel
theorem dX12_play_80 : decode cX12_play 80 = .ok (.aload_n 0, 1) := by decide +kernel
theorem dX12_play_81 : decode cX12_play 81 = .ok (.getfield 846, 3) := by decide +kernel
theorem dX12_play_84 : decode cX12_play 84 = .ok (.isub, 1) := by decide +kernel
theorem dX12_play_85 : decode cX12_play 85 = .ok (.istore 6, 2) := by decide +kernel
theorem dX12_play_87 : decode cX12_play 87 = .ok (.iload 5, 2) := by decide +kernel
theorem dX12_play_89 : decode cX12_play 89 = .ok (.aload_n 0, 1) := by decide +kernel
theorem dX12_play_90 : decode cX12_play 90 = .ok (.aload_n 0, 1) := by decide +kernel
theorem dX12_play_91 : decode cX12_play 91 = .ok (.getfield 846, 3) := by decide +kernel
theorem dX12_play_94 : decode cX12_play 94 = .ok (.aload_n 0, 1) := by decide +kernel
theorem dX12_play_95 : decode cX12_play 95 = .ok (.getfield 846, 3) := by decide +kernel
theorem dX12_play_98 : decode cX12_play 98 = .ok (.iload 6, 2) := by decide +kernel
theorem dX12_play_100 : decode cX12_play 100 = .ok (.iadd, 1) := by decide +kernel
theorem dX12_play_101 : decode cX12_play 101 = .ok (.invokevirtual 895, 3) := by decide +kernel
theorem dX12_play_104 : decode cX12_play 104 = .ok (.iadd, 1) := by decide +kernel
theorem dX12_play_105 : decode cX12_play 105 = .ok (.istore 5, 2) := by decide +kernel
theorem dX12_play_107 : decode cX12_play 107 = .ok (.aload_n 0, 1) := by decide +kernel
theorem dX12_play_108 : decode cX12_play 108 = .ok (.dup, 1) := by decide +kernel
theorem dX12_play_109 : decode cX12_play 109 = .ok (.getfield 846, 3) := by decide +kernel
theorem dX12_play_112 : decode cX12_play 112 = .ok (.iload 6, 2) := by decide +kernel
theorem dX12_play_114 : decode cX12_play 114 = .ok (.iadd, 1) := by decide +kernel
theorem dX12_play_115 : decode cX12_play 115 = .ok (.putfield 846, 3) := by decide +kernel
theorem dX12_play_118 : decode cX12_play 118 = .ok (.iload 4, 2) := by decide +kernel
theorem dX12_play_120 : decode cX12_play 120 = .ok (.iload 6, 2) := by decide +kernel
theorem dX12_play_122 : decode cX12_play 122 = .ok (.isub, 1) := by decide +kernel
theorem dX12_play_123 : decode cX12_play 123 = .ok (.istore 4, 2) := by decide +kernel
theorem dX12_play_125 : decode cX12_play 125 = .ok (.aload_n 0, 1) := by decide +kernel
theorem dX12_play_126 : decode cX12_play 126 = .ok (.getfield 846, 3) := by decide +kernel
theorem dX12_play_129 : decode cX12_play 129 = .ok (.sipush 960, 3) := by decide +kernel
theorem dX12_play_132 : decode cX12_play 132 = .ok (.if_icmp .ge 6, 3) := by decide +kernel
theorem dX12_play_135 : decode cX12_play 135 = .ok (.goto (-81), 3) := by decide +kernel
theorem dX12_play_138 : decode cX12_play 138 = .ok (.aload_n 0, 1) := by decide +kernel
theorem dX12_play_139 : decode cX12_play 139 = .ok (.iconst 0, 1) := by decide +kernel
theorem dX12_play_140 : decode cX12_play 140 = .ok (.putfield 846, 3) := by decide +kernel
theorem dX12_play_143 : decode cX12_play 143 = .ok (.aload_n 0, 1) := by decide +kernel
theorem dX12_play_144 : decode cX12_play 144 = .ok (.dup, 1) := by decide +kernel
theorem dX12_play_145 : decode cX12_play 145 = .ok (.getfield 879, 3) := by decide +kernel
theorem dX12_play_148 : decode cX12_play 148 = .ok (.iconst 1, 1) := by decide +kernel
theorem dX12_play_149 : decode cX12_play 149 = .ok (.iadd, 1) := by decide +kernel
theorem dX12_play_150 : decode cX12_play 150 = .ok (.putfield 879, 3) := by decide +kernel
theorem dX12_play_153 : decode cX12_play 153 = .ok (.aload_n 0, 1) := by decide +kernel
theorem dX12_play_154 : decode cX12_play 154 = .ok (.invokevirtual 898, 3) := by decide +kernel
theorem dX12_play_157 : decode cX12_play 157 = .ok (.goto (-103), 3) := by decide +kernel
theorem dX12_play_160 : decode cX12_play 160 = .ok (.aload_n 0, 1) := by decide +kernel
theorem dX12_play_161 : decode cX12_play 161 = .ok (.dup, 1) := by decide +kernel
theorem dX12_play_162 : decode cX12_play 162 = .ok (.getfield 901, 3) := by decide +kernel
theorem dX12_play_165 : decode cX12_play 165 = .ok (.iload 5, 2) := by decide +kernel
theorem dX12_play_167 : decode cX12_play 167 = .ok (.iadd, 1) := by decide +kernel
theorem dX12_play_168 : decode cX12_play 168 = .ok (.putfield 901, 3) := by decide +kernel
theorem dX12_play_171 : decode cX12_play 171 = .ok (.iload 5, 2) := by decide +kernel
theorem dX12_play_173 : decode cX12_play 173 = .ok (.ireturn, 1) := by decide +kernel
theorem dX12_heard_0 : decode cX12_heard 0 = .ok (.iload_n 1, 1) := by decide +kernel
theorem dX12_heard_1 : decode cX12_heard 1 = .ok (.ifCond .lt 11, 3) := by decide +kernel
theorem dX12_heard_4 : decode cX12_heard 4 = .ok (.iload_n 1, 1) := by decide +kernel
theorem dX12_heard_5 : decode cX12_heard 5 = .ok (.aload_n 0, 1) := by decide +kernel
theorem dX12_heard_6 : decode cX12_heard 6 = .ok (.getfield 887, 3) := by decide +kernel
theorem dX12_heard_9 : decode cX12_heard 9 = .ok (.if_icmp .lt 5, 3) := by decide +kernel
theorem dX12_heard_12 : decode cX12_heard 12 = .ok (.iconst (-1), 1) := by decide +kernel
theorem dX12_heard_13 : decode cX12_heard 13 = .ok (.ireturn, 1) := by decide +kernel
theorem dX12_heard_14 : decode cX12_heard 14 = .ok (.iload_n 2, 1) := by decide +kernel
theorem dX12_heard_15 : decode cX12_heard 15 = .ok (.tableswitch 152 0 7 #[45, 52, 59, 59, 86, 86, 113, 136], 45) := by decide +kernel
theorem dX12_heard_60 : decode cX12_heard 60 = .ok (.aload_n 0, 1) := by decide +kernel
theorem dX12_heard_61 : decode cX12_heard 61 = .ok (.getfield 753, 3) := by decide +kernel
theorem dX12_heard_64 : decode cX12_heard 64 = .ok (.iload_n 1, 1) := by decide +kernel
theorem dX12_heard_65 : decode cX12_heard 65 = .ok (.iaload, 1) := by decide +kernel
theorem dX12_heard_66 : decode cX12_heard 66 = .ok (.ireturn, 1) := by decide +kernel
theorem dX12_heard_67 : decode cX12_heard 67 = .ok (.aload_n 0, 1) := by decide +kernel
theorem dX12_heard_68 : decode cX12_heard 68 = .ok (.getfield 756, 3) := by decide +kernel
theorem dX12_heard_71 : decode cX12_heard 71 = .ok (.iload_n 1, 1) := by decide +kernel
theorem dX12_heard_72 : decode cX12_heard 72 = .ok (.iaload, 1) := by decide +kernel
theorem dX12_heard_73 : decode cX12_heard 73 = .ok (.ireturn, 1) := by decide +kernel
theorem dX12_heard_74 : decode cX12_heard 74 = .ok (.aload_n 0, 1) := by decide +kernel
theorem dX12_heard_75 : decode cX12_heard 75 = .ok (.getfield 762, 3) := by decide +kernel
theorem dX12_heard_78 : decode cX12_heard 78 = .ok (.iload_n 1, 1) := by decide +kernel
theorem dX12_heard_79 : decode cX12_heard 79 = .ok (.laload, 1) := by decide +kernel
theorem dX12_heard_80 : decode cX12_heard 80 = .ok (.aload_n 0, 1) := by decide +kernel
theorem dX12_heard_81 : decode cX12_heard 81 = .ok (.getfield 759, 3) := by decide +kernel
theorem dX12_heard_84 : decode cX12_heard 84 = .ok (.iload_n 1, 1) := by decide +kernel
theorem dX12_heard_85 : decode cX12_heard 85 = .ok (.iaload, 1) := by decide +kernel
theorem dX12_heard_86 : decode cX12_heard 86 = .ok (.i2l, 1) := by decide +kernel
theorem dX12_heard_87 : decode cX12_heard 87 = .ok (.iload_n 2, 1) := by decide +kernel
theorem dX12_heard_88 : decode cX12_heard 88 = .ok (.iconst 3, 1) := by decide +kernel
theorem dX12_heard_89 : decode cX12_heard 89 = .ok (.if_icmp .ne 7, 3) := by decide +kernel
theorem dX12_heard_92 : decode cX12_heard 92 = .ok (.iconst 1, 1) := by decide +kernel
theorem dX12_heard_93 : decode cX12_heard 93 = .ok (.goto 4, 3) := by decide +kernel
theorem dX12_heard_96 : decode cX12_heard 96 = .ok (.iconst 0, 1) := by decide +kernel
theorem dX12_heard_97 : decode cX12_heard 97 = .ok (.invokestatic 865, 3) := by decide +kernel
theorem dX12_heard_100 : decode cX12_heard 100 = .ok (.ireturn, 1) := by decide +kernel
theorem dX12_heard_101 : decode cX12_heard 101 = .ok (.aload_n 0, 1) := by decide +kernel
theorem dX12_heard_102 : decode cX12_heard 102 = .ok (.getfield 765, 3) := by decide +kernel
theorem dX12_heard_105 : decode cX12_heard 105 = .ok (.iload_n 1, 1) := by decide +kernel
theorem dX12_heard_106 : decode cX12_heard 106 = .ok (.laload, 1) := by decide +kernel
theorem dX12_heard_107 : decode cX12_heard 107 = .ok (.aload_n 0, 1) := by decide +kernel
theorem dX12_heard_108 : decode cX12_heard 108 = .ok (.getfield 759, 3) := by decide +kernel
theorem dX12_heard_111 : decode cX12_heard 111 = .ok (.iload_n 1, 1) := by decide +kernel
theorem dX12_heard_112 : decode cX12_heard 112 = .ok (.iaload, 1) := by decide +kernel
theorem dX12_heard_113 : decode cX12_heard 113 = .ok (.i2l, 1) := by decide +kernel
theorem dX12_heard_114 : decode cX12_heard 114 = .ok (.iload_n 2, 1) := by decide +kernel
theorem dX12_heard_115 : decode cX12_heard 115 = .ok (.iconst 5, 1) := by decide +kernel
theorem dX12_heard_116 : decode cX12_heard 116 = .ok (.if_icmp .ne 7, 3) := by decide +kernel
theorem dX12_heard_119 : decode cX12_heard 119 = .ok (.iconst 1, 1) := by decide +kernel
theorem dX12_heard_120 : decode cX12_heard 120 = .ok (.goto 4, 3) := by decide +kernel
theorem dX12_heard_123 : decode cX12_heard 123 = .ok (.iconst 0, 1) := by decide +kernel
theorem dX12_heard_124 : decode cX12_heard 124 = .ok (.invokestatic 865, 3) := by decide +kernel
theorem dX12_heard_127 : decode cX12_heard 127 = .ok (.ireturn, 1) := by decide +kernel
theorem dX12_heard_128 : decode cX12_heard 128 = .ok (.aload_n 0, 1) := by decide +kernel
theorem dX12_heard_129 : decode cX12_heard 129 = .ok (.getfield 777, 3) := by decide +kernel
theorem dX12_heard_132 : decode cX12_heard 132 = .ok (.iload_n 1, 1) := by decide +kernel
theorem dX12_heard_133 : decode cX12_heard 133 = .ok (.iaload, 1) := by decide +kernel
theorem dX12_heard_134 : decode cX12_heard 134 = .ok (.iconst 2, 1) := by decide +kernel
theorem dX12_heard_135 : decode cX12_heard 135 = .ok (.iand, 1) := by decide +kernel
theorem dX12_heard_136 : decode cX12_heard 136 = .ok (.iconst 2, 1) := by decide +kernel
theorem dX12_heard_137 : decode cX12_heard 137 = .ok (.if_icmp .ne 12, 3) := by decide +kernel
theorem dX12_heard_140 : decode cX12_heard 140 = .ok (.aload_n 0, 1) := by decide +kernel
theorem dX12_heard_141 : decode cX12_heard 141 = .ok (.getfield 774, 3) := by decide +kernel
theorem dX12_heard_144 : decode cX12_heard 144 = .ok (.iload_n 1, 1) := by decide +kernel
theorem dX12_heard_145 : decode cX12_heard 145 = .ok (.iaload, 1) := by decide +kernel
theorem dX12_heard_146 : decode cX12_heard 146 = .ok (.goto 4, 3) := by decide +kernel
theorem dX12_heard_149 : decode cX12_heard 149 = .ok (.iconst 0, 1) := by decide +kernel
theorem dX12_heard_150 : decode cX12_heard 150 = .ok (.ireturn, 1) := by decide +kernel
theorem dX12_heard_151 : decode cX12_heard 151 = .ok (.aload_n 0, 1) := by decide +kernel
theorem dX12_heard_152 : decode cX12_heard 152 = .ok (.getfield 768, 3) := by decide +kernel
theorem dX12_heard_155 : decode cX12_heard 155 = .ok (.iload_n 1, 1) := by decide +kernel
theorem dX12_heard_156 : decode cX12_heard 156 = .ok (.iaload, 1) := by decide +kernel
theorem dX12_heard_157 : decode cX12_heard 157 = .ok (.aload_n 0, 1) := by decide +kernel
theorem dX12_heard_158 : decode cX12_heard 158 = .ok (.getfield 771, 3) := by decide +kernel
theorem dX12_heard_161 : decode cX12_heard 161 = .ok (.iload_n 1, 1) := by decide +kernel
theorem dX12_heard_162 : decode cX12_heard 162 = .ok (.iaload, 1) := by decide +kernel
theorem dX12_heard_163 : decode cX12_heard 163 = .ok (.invokestatic 862, 3) := by decide +kernel
theorem dX12_heard_166 : decode cX12_heard 166 = .ok (.ireturn, 1) := by decide +kernel
theorem dX12_heard_167 : decode cX12_heard 167 = .ok (.iconst (-1), 1) := by decide +kernel
theorem dX12_heard_168 : decode cX12_heard 168 = .ok (.ireturn, 1) := by decide +kernel
theorem dX12_heardLetter_0 : decode cX12_heardLetter 0 = .ok (.iload_n 1, 1) := by decide +kernel
theorem dX12_heardLetter_1 : decode cX12_heardLetter 1 = .ok (.ifCond .lt 11, 3) := by decide +kernel
theorem dX12_heardLetter_4 : decode cX12_heardLetter 4 = .ok (.iload_n 1, 1) := by decide +kernel
theorem dX12_heardLetter_5 : decode cX12_heardLetter 5 = .ok (.aload_n 0, 1) := by decide +kernel
theorem dX12_heardLetter_6 : decode cX12_heardLetter 6 = .ok (.getfield 887, 3) := by decide +kernel
theorem dX12_heardLetter_9 : decode cX12_heardLetter 9 = .ok (.if_icmp .lt 7, 3) := by decide +kernel
theorem dX12_heardLetter_12 : decode cX12_heardLetter 12 = .ok (.iconst (-1), 1) := by decide +kernel
theorem dX12_heardLetter_13 : decode cX12_heardLetter 13 = .ok (.goto 19, 3) := by decide +kernel
theorem dX12_heardLetter_16 : decode cX12_heardLetter 16 = .ok (.aload_n 0, 1) := by decide +kernel
theorem dX12_heardLetter_17 : decode cX12_heardLetter 17 = .ok (.getfield 768, 3) := by decide +kernel
theorem dX12_heardLetter_20 : decode cX12_heardLetter 20 = .ok (.iload_n 1, 1) := by decide +kernel
theorem dX12_heardLetter_21 : decode cX12_heardLetter 21 = .ok (.iaload, 1) := by decide +kernel
theorem dX12_heardLetter_22 : decode cX12_heardLetter 22 = .ok (.aload_n 0, 1) := by decide +kernel
theorem dX12_heardLetter_23 : decode cX12_heardLetter 23 = .ok (.getfield 771, 3) := by decide +kernel
theorem dX12_heardLetter_26 : decode cX12_heardLetter 26 = .ok (.iload_n 1, 1) := by decide +kernel
theorem dX12_heardLetter_27 : decode cX12_heardLetter 27 = .ok (.iaload, 1) := by decide +kernel
theorem dX12_heardLetter_28 : decode cX12_heardLetter 28 = .ok (.iload_n 2, 1) := by decide +kernel
theorem dX12_heardLetter_29 : decode cX12_heardLetter 29 = .ok (.invokestatic 869, 3) := by decide +kernel
theorem dX12_heardLetter_32 : decode cX12_heardLetter 32 = .ok (.ireturn, 1) := by decide +kernel
theorem dX12_jump_0 : decode cX12_jump 0 = .ok (.iload_n 1, 1) := by decide +kernel
theorem dX12_jump_1 : decode cX12_jump 1 = .ok (.ifCond .lt 10, 3) := by decide +kernel
theorem dX12_jump_4 : decode cX12_jump 4 = .ok (.iload_n 1, 1) := by decide +kernel
theorem dX12_jump_5 : decode cX12_jump 5 = .ok (.ldc_w 852, 3) := by decide +kernel
theorem dX12_jump_8 : decode cX12_jump 8 = .ok (.if_icmp .lt 5, 3) := by decide +kernel
theorem dX12_jump_11 : decode cX12_jump 11 = .ok (.iconst 0, 1) := by decide +kernel
theorem dX12_jump_12 : decode cX12_jump 12 = .ok (.ireturn, 1) := by decide +kernel
theorem dX12_jump_13 : decode cX12_jump 13 = .ok (.aload_n 0, 1) := by decide +kernel
theorem dX12_jump_14 : decode cX12_jump 14 = .ok (.iload_n 1, 1) := by decide +kernel
theorem dX12_jump_15 : decode cX12_jump 15 = .ok (.putfield 879, 3) := by decide +kernel
theorem dX12_jump_18 : decode cX12_jump 18 = .ok (.aload_n 0, 1) := by decide +kernel
theorem dX12_jump_19 : decode cX12_jump 19 = .ok (.iconst 0, 1) := by decide +kernel
theorem dX12_jump_20 : decode cX12_jump 20 = .ok (.putfield 846, 3) := by decide +kernel
theorem dX12_jump_23 : decode cX12_jump 23 = .ok (.aload_n 0, 1) := by decide +kernel
theorem dX12_jump_24 : decode cX12_jump 24 = .ok (.invokevirtual 898, 3) := by decide +kernel
theorem dX12_jump_27 : decode cX12_jump 27 = .ok (.iconst 1, 1) := by decide +kernel
theorem dX12_jump_28 : decode cX12_jump 28 = .ok (.ireturn, 1) := by decide +kernel
theorem dX12_mute_0 : decode cX12_mute 0 = .ok (.aload_n 0, 1) := by decide +kernel
theorem dX12_mute_1 : decode cX12_mute 1 = .ok (.iload_n 1, 1) := by decide +kernel
theorem dX12_mute_2 : decode cX12_mute 2 = .ok (.invokevirtual 849, 3) := by decide +kernel
theorem dX12_mute_5 : decode cX12_mute 5 = .ok (.ifCond .ne 5, 3) := by decide +kernel
theorem dX12_mute_8 : decode cX12_mute 8 = .ok (.iconst 0, 1) := by decide +kernel
theorem dX12_mute_9 : decode cX12_mute 9 = .ok (.ireturn, 1) := by decide +kernel
theorem dX12_mute_10 : decode cX12_mute 10 = .ok (.aload_n 0, 1) := by decide +kernel
theorem dX12_mute_11 : decode cX12_mute 11 = .ok (.getfield 719, 3) := by decide +kernel
theorem dX12_mute_14 : decode cX12_mute 14 = .ok (.iload_n 1, 1) := by decide +kernel
theorem dX12_mute_15 : decode cX12_mute 15 = .ok (.baload, 1) := by decide +kernel
theorem dX12_mute_16 : decode cX12_mute 16 = .ok (.istore_n 3, 1) := by decide +kernel
theorem dX12_mute_17 : decode cX12_mute 17 = .ok (.aload_n 0, 1) := by decide +kernel
theorem dX12_mute_18 : decode cX12_mute 18 = .ok (.getfield 719, 3) := by decide +kernel
theorem dX12_mute_21 : decode cX12_mute 21 = .ok (.iload_n 1, 1) := by decide +kernel
theorem dX12_mute_22 : decode cX12_mute 22 = .ok (.iload_n 2, 1) := by decide +kernel
theorem dX12_mute_23 : decode cX12_mute 23 = .ok (.bastore, 1) := by decide +kernel
theorem dX12_mute_24 : decode cX12_mute 24 = .ok (.iload_n 3, 1) := by decide +kernel
theorem dX12_mute_25 : decode cX12_mute 25 = .ok (.ireturn, 1) := by decide +kernel
theorem dX12_solo_0 : decode cX12_solo 0 = .ok (.aload_n 0, 1) := by decide +kernel
theorem dX12_solo_1 : decode cX12_solo 1 = .ok (.iload_n 1, 1) := by decide +kernel
theorem dX12_solo_2 : decode cX12_solo 2 = .ok (.invokevirtual 849, 3) := by decide +kernel
theorem dX12_solo_5 : decode cX12_solo 5 = .ok (.ifCond .ne 5, 3) := by decide +kernel
theorem dX12_solo_8 : decode cX12_solo 8 = .ok (.iconst 0, 1) := by decide +kernel
theorem dX12_solo_9 : decode cX12_solo 9 = .ok (.ireturn, 1) := by decide +kernel
theorem dX12_solo_10 : decode cX12_solo 10 = .ok (.aload_n 0, 1) := by decide +kernel
theorem dX12_solo_11 : decode cX12_solo 11 = .ok (.getfield 723, 3) := by decide +kernel
theorem dX12_solo_14 : decode cX12_solo 14 = .ok (.iload_n 1, 1) := by decide +kernel
theorem dX12_solo_15 : decode cX12_solo 15 = .ok (.baload, 1) := by decide +kernel
theorem dX12_solo_16 : decode cX12_solo 16 = .ok (.istore_n 3, 1) := by decide +kernel
theorem dX12_solo_17 : decode cX12_solo 17 = .ok (.aload_n 0, 1) := by decide +kernel
theorem dX12_solo_18 : decode cX12_solo 18 = .ok (.getfield 723, 3) := by decide +kernel
theorem dX12_solo_21 : decode cX12_solo 21 = .ok (.iload_n 1, 1) := by decide +kernel
theorem dX12_solo_22 : decode cX12_solo 22 = .ok (.iload_n 2, 1) := by decide +kernel
theorem dX12_solo_23 : decode cX12_solo 23 = .ok (.bastore, 1) := by decide +kernel
theorem dX12_solo_24 : decode cX12_solo 24 = .ok (.iload_n 3, 1) := by decide +kernel
theorem dX12_solo_25 : decode cX12_solo 25 = .ok (.ireturn, 1) := by decide +kernel
theorem dX12_seed_0 : decode cX12_seed 0 = .ok (.aload_n 0, 1) := by decide +kernel
theorem dX12_seed_1 : decode cX12_seed 1 = .ok (.iload_n 1, 1) := by decide +kernel
theorem dX12_seed_2 : decode cX12_seed 2 = .ok (.putfield 678, 3) := by decide +kernel
theorem dX12_seed_5 : decode cX12_seed 5 = .ok (.return_, 1) := by decide +kernel
theorem dX12_about_0 : decode cX12_about 0 = .ok (.iconst 0, 1) := by decide +kernel
theorem dX12_about_1 : decode cX12_about 1 = .ok (.istore_n 2, 1) := by decide +kernel
theorem dX12_about_2 : decode cX12_about 2 = .ok (.iload_n 1, 1) := by decide +kernel
theorem dX12_about_3 : decode cX12_about 3 = .ok (.tableswitch 135 0 6 #[41, 46, 51, 56, 90, 125, 130], 41) := by decide +kernel
theorem dX12_about_44 : decode cX12_about 44 = .ok (.aload_n 0, 1) := by decide +kernel
theorem dX12_about_45 : decode cX12_about 45 = .ok (.getfield 879, 3) := by decide +kernel
theorem dX12_about_48 : decode cX12_about 48 = .ok (.ireturn, 1) := by decide +kernel
theorem dX12_about_49 : decode cX12_about 49 = .ok (.aload_n 0, 1) := by decide +kernel
theorem dX12_about_50 : decode cX12_about 50 = .ok (.getfield 846, 3) := by decide +kernel
theorem dX12_about_53 : decode cX12_about 53 = .ok (.ireturn, 1) := by decide +kernel
theorem dX12_about_54 : decode cX12_about 54 = .ok (.aload_n 0, 1) := by decide +kernel
theorem dX12_about_55 : decode cX12_about 55 = .ok (.getfield 822, 3) := by decide +kernel
theorem dX12_about_58 : decode cX12_about 58 = .ok (.ireturn, 1) := by decide +kernel
theorem dX12_about_59 : decode cX12_about 59 = .ok (.iconst 0, 1) := by decide +kernel
theorem dX12_about_60 : decode cX12_about 60 = .ok (.istore_n 3, 1) := by decide +kernel
theorem dX12_about_61 : decode cX12_about 61 = .ok (.iload_n 3, 1) := by decide +kernel
theorem dX12_about_62 : decode cX12_about 62 = .ok (.bipush 8, 2) := by decide +kernel
theorem dX12_about_64 : decode cX12_about 64 = .ok (.if_icmp .ge 27, 3) := by decide +kernel
theorem dX12_about_67 : decode cX12_about 67 = .ok (.iload_n 2, 1) := by decide +kernel
theorem dX12_about_68 : decode cX12_about 68 = .ok (.aload_n 0, 1) := by decide +kernel
theorem dX12_about_69 : decode cX12_about 69 = .ok (.getfield 713, 3) := by decide +kernel
theorem dX12_about_72 : decode cX12_about 72 = .ok (.iload_n 3, 1) := by decide +kernel
theorem dX12_about_73 : decode cX12_about 73 = .ok (.iaload, 1) := by decide +kernel
theorem dX12_about_74 : decode cX12_about 74 = .ok (.iconst (-1), 1) := by decide +kernel
theorem dX12_about_75 : decode cX12_about 75 = .ok (.if_icmp .ne 7, 3) := by decide +kernel
theorem dX12_about_78 : decode cX12_about 78 = .ok (.iconst 0, 1) := by decide +kernel
theorem dX12_about_79 : decode cX12_about 79 = .ok (.goto 4, 3) := by decide +kernel
theorem dX12_about_82 : decode cX12_about 82 = .ok (.iconst 1, 1) := by decide +kernel
theorem dX12_about_83 : decode cX12_about 83 = .ok (.iadd, 1) := by decide +kernel
theorem dX12_about_84 : decode cX12_about 84 = .ok (.istore_n 2, 1) := by decide +kernel
theorem dX12_about_85 : decode cX12_about 85 = .ok (.iinc 3 1, 3) := by decide +kernel
theorem dX12_about_88 : decode cX12_about 88 = .ok (.goto (-27), 3) := by decide +kernel
theorem dX12_about_91 : decode cX12_about 91 = .ok (.iload_n 2, 1) := by decide +kernel
theorem dX12_about_92 : decode cX12_about 92 = .ok (.ireturn, 1) := by decide +kernel
theorem dX12_about_93 : decode cX12_about 93 = .ok (.iconst 0, 1) := by decide +kernel
theorem dX12_about_94 : decode cX12_about 94 = .ok (.istore_n 3, 1) := by decide +kernel
theorem dX12_about_95 : decode cX12_about 95 = .ok (.iload_n 3, 1) := by decide +kernel
theorem dX12_about_96 : decode cX12_about 96 = .ok (.bipush 8, 2) := by decide +kernel
theorem dX12_about_98 : decode cX12_about 98 = .ok (.if_icmp .ge 28, 3) := by decide +kernel
theorem dX12_about_101 : decode cX12_about 101 = .ok (.iload_n 2, 1) := by decide +kernel
theorem dX12_about_102 : decode cX12_about 102 = .ok (.aload_n 0, 1) := by decide +kernel
theorem dX12_about_103 : decode cX12_about 103 = .ok (.getfield 716, 3) := by decide +kernel
theorem dX12_about_106 : decode cX12_about 106 = .ok (.iload_n 3, 1) := by decide +kernel
theorem dX12_about_107 : decode cX12_about 107 = .ok (.iaload, 1) := by decide +kernel
theorem dX12_about_108 : decode cX12_about 108 = .ok (.bipush (-2), 2) := by decide +kernel
theorem dX12_about_110 : decode cX12_about 110 = .ok (.if_icmp .ne 7, 3) := by decide +kernel
theorem dX12_about_113 : decode cX12_about 113 = .ok (.iconst 0, 1) := by decide +kernel
theorem dX12_about_114 : decode cX12_about 114 = .ok (.goto 4, 3) := by decide +kernel
theorem dX12_about_117 : decode cX12_about 117 = .ok (.iconst 1, 1) := by decide +kernel
theorem dX12_about_118 : decode cX12_about 118 = .ok (.iadd, 1) := by decide +kernel
theorem dX12_about_119 : decode cX12_about 119 = .ok (.istore_n 2, 1) := by decide +kernel
theorem dX12_about_120 : decode cX12_about 120 = .ok (.iinc 3 1, 3) := by decide +kernel
theorem dX12_about_123 : decode cX12_about 123 = .ok (.goto (-28), 3) := by decide +kernel
theorem dX12_about_126 : decode cX12_about 126 = .ok (.iload_n 2, 1) := by decide +kernel
theorem dX12_about_127 : decode cX12_about 127 = .ok (.ireturn, 1) := by decide +kernel
theorem dX12_about_128 : decode cX12_about 128 = .ok (.aload_n 0, 1) := by decide +kernel
theorem dX12_about_129 : decode cX12_about 129 = .ok (.getfield 901, 3) := by decide +kernel
theorem dX12_about_132 : decode cX12_about 132 = .ok (.ireturn, 1) := by decide +kernel
theorem dX12_about_133 : decode cX12_about 133 = .ok (.aload_n 0, 1) := by decide +kernel
theorem dX12_about_134 : decode cX12_about 134 = .ok (.getfield 47, 3) := by decide +kernel
theorem dX12_about_137 : decode cX12_about 137 = .ok (.ireturn, 1) := by decide +kernel
theorem dX12_about_138 : decode cX12_about 138 = .ok (.iconst (-1), 1) := by decide +kernel
theorem dX12_about_139 : decode cX12_about 139 = .ok (.ireturn, 1) := by decide +kernel
