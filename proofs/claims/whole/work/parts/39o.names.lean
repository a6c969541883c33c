theorem dX4_measure_304 : decode cX4_measure 304 = .ok (.getfield 30, 3) := by decide +kernel
theorem dX4_measure_307 : decode cX4_measure 307 = .ok (.iconst 0, 1) := by decide +kernel
theorem dX4_measure_308 : decode cX4_measure 308 = .ok (.aaload, 1) := by decide +kernel
theorem dX4_measure_309 : decode cX4_measure 309 = .ok (.aload_n 0, 1) := by decide +kernel
theorem dX4_measure_310 : decode cX4_measure 310 = .ok (.getfield 30, 3) := by decide +kernel
theorem dX4_measure_313 : decode cX4_measure 313 = .ok (.iconst 1, 1) := by decide +kernel
theorem dX4_measure_314 : decode cX4_measure 314 = .ok (.aaload, 1) := by decide +kernel
theorem dX4_measure_315 : decode cX4_measure 315 = .ok (.invokevirtual 86, 3) := by decide +kernel
theorem dX4_measure_318 : decode cX4_measure 318 = .ok (.goto 32, 3) := by decide +kernel
theorem dX4_measure_321 : decode cX4_measure 321 = .ok (.aload_n 0, 1) := by decide +kernel
theorem dX4_measure_322 : decode cX4_measure 322 = .ok (.aload_n 0, 1) := by decide +kernel
theorem dX4_measure_323 : decode cX4_measure 323 = .ok (.getfield 30, 3) := by decide +kernel
theorem dX4_measure_326 : decode cX4_measure 326 = .ok (.iconst 1, 1) := by decide +kernel
theorem dX4_measure_327 : decode cX4_measure 327 = .ok (.aaload, 1) := by decide +kernel
theorem dX4_measure_328 : decode cX4_measure 328 = .ok (.aload_n 0, 1) := by decide +kernel
theorem dX4_measure_329 : decode cX4_measure 329 = .ok (.getfield 30, 3) := by decide +kernel
theorem dX4_measure_332 : decode cX4_measure 332 = .ok (.iconst 0, 1) := by decide +kernel
theorem dX4_measure_333 : decode cX4_measure 333 = .ok (.aaload, 1) := by decide +kernel
theorem dX4_measure_334 : decode cX4_measure 334 = .ok (.invokevirtual 86, 3) := by decide +kernel
theorem dX4_measure_337 : decode cX4_measure 337 = .ok (.goto 13, 3) := by decide +kernel
theorem dX4_measure_340 : decode cX4_measure 340 = .ok (.aload_n 0, 1) := by decide +kernel
theorem dX4_measure_341 : decode cX4_measure 341 = .ok (.aload_n 0, 1) := by decide +kernel
theorem dX4_measure_342 : decode cX4_measure 342 = .ok (.getfield 30, 3) := by decide +kernel
theorem dX4_measure_345 : decode cX4_measure 345 = .ok (.iconst 0, 1) := by decide +kernel
theorem dX4_measure_346 : decode cX4_measure 346 = .ok (.aaload, 1) := by decide +kernel
theorem dX4_measure_347 : decode cX4_measure 347 = .ok (.invokevirtual 90, 3) := by decide +kernel
theorem dX4_measure_350 : decode cX4_measure 350 = .ok (.return_, 1) := by decide +kernel
theorem dX4_bounds_0 : decode cX4_bounds 0 = .ok (.aload_n 0, 1) := by decide +kernel
theorem dX4_bounds_1 : decode cX4_bounds 1 = .ok (.lload_n 1, 1) := by decide +kernel
theorem dX4_bounds_2 : decode cX4_bounds 2 = .ok (.putfield 7, 3) := by decide +kernel
theorem dX4_bounds_5 : decode cX4_bounds 5 = .ok (.aload_n 0, 1) := by decide +kernel
theorem dX4_bounds_6 : decode cX4_bounds 6 = .ok (.lload_n 3, 1) := by decide +kernel
theorem dX4_bounds_7 : decode cX4_bounds 7 = .ok (.putfield 13, 3) := by decide +kernel
theorem dX4_bounds_10 : decode cX4_bounds 10 = .ok (.aload_n 0, 1) := by decide +kernel
theorem dX4_bounds_11 : decode cX4_bounds 11 = .ok (.lload 5, 2) := by decide +kernel
theorem dX4_bounds_13 : decode cX4_bounds 13 = .ok (.putfield 16, 3) := by decide +kernel
theorem dX4_bounds_16 : decode cX4_bounds 16 = .ok (.aload_n 0, 1) := by decide +kernel
theorem dX4_bounds_17 : decode cX4_bounds 17 = .ok (.lload 7, 2) := by decide +kernel
theorem dX4_bounds_19 : decode cX4_bounds 19 = .ok (.putfield 19, 3) := by decide +kernel
theorem dX4_bounds_22 : decode cX4_bounds 22 = .ok (.return_, 1) := by decide +kernel
theorem dX4_measureMeeting_0 : decode cX4_measureMeeting 0 = .ok (.aload_n 0, 1) := by decide +kernel
theorem dX4_measureMeeting_1 : decode cX4_measureMeeting 1 = .ok (.aload_n 1, 1) := by decide +kernel
theorem dX4_measureMeeting_2 : decode cX4_measureMeeting 2 = .ok (.getfield 7, 3) := by decide +kernel
theorem dX4_measureMeeting_5 : decode cX4_measureMeeting 5 = .ok (.aload_n 1, 1) := by decide +kernel
theorem dX4_measureMeeting_6 : decode cX4_measureMeeting 6 = .ok (.getfield 13, 3) := by decide +kernel
theorem dX4_measureMeeting_9 : decode cX4_measureMeeting 9 = .ok (.aload_n 1, 1) := by decide +kernel
theorem dX4_measureMeeting_10 : decode cX4_measureMeeting 10 = .ok (.getfield 16, 3) := by decide +kernel
theorem dX4_measureMeeting_13 : decode cX4_measureMeeting 13 = .ok (.aload_n 1, 1) := by decide +kernel
theorem dX4_measureMeeting_14 : decode cX4_measureMeeting 14 = .ok (.getfield 19, 3) := by decide +kernel
theorem dX4_measureMeeting_17 : decode cX4_measureMeeting 17 = .ok (.aload_n 1, 1) := by decide +kernel
theorem dX4_measureMeeting_18 : decode cX4_measureMeeting 18 = .ok (.getfield 13, 3) := by decide +kernel
theorem dX4_measureMeeting_21 : decode cX4_measureMeeting 21 = .ok (.aload_n 2, 1) := by decide +kernel
theorem dX4_measureMeeting_22 : decode cX4_measureMeeting 22 = .ok (.getfield 16, 3) := by decide +kernel
theorem dX4_measureMeeting_25 : decode cX4_measureMeeting 25 = .ok (.lconst 1, 1) := by decide +kernel
theorem dX4_measureMeeting_26 : decode cX4_measureMeeting 26 = .ok (.ladd, 1) := by decide +kernel
theorem dX4_measureMeeting_27 : decode cX4_measureMeeting 27 = .ok (.lmul, 1) := by decide +kernel
theorem dX4_measureMeeting_28 : decode cX4_measureMeeting 28 = .ok (.aload_n 2, 1) := by decide +kernel
theorem dX4_measureMeeting_29 : decode cX4_measureMeeting 29 = .ok (.getfield 19, 3) := by decide +kernel
theorem dX4_measureMeeting_32 : decode cX4_measureMeeting 32 = .ok (.lmul, 1) := by decide +kernel
theorem dX4_measureMeeting_33 : decode cX4_measureMeeting 33 = .ok (.ladd, 1) := by decide +kernel
theorem dX4_measureMeeting_34 : decode cX4_measureMeeting 34 = .ok (.lconst 1, 1) := by decide +kernel
theorem dX4_measureMeeting_35 : decode cX4_measureMeeting 35 = .ok (.ladd, 1) := by decide +kernel
theorem dX4_measureMeeting_36 : decode cX4_measureMeeting 36 = .ok (.invokevirtual 57, 3) := by decide +kernel
theorem dX4_measureMeeting_39 : decode cX4_measureMeeting 39 = .ok (.return_, 1) := by decide +kernel
theorem dX4_measureOfOne_0 : decode cX4_measureOfOne 0 = .ok (.aload_n 0, 1) := by decide +kernel
theorem dX4_measureOfOne_1 : decode cX4_measureOfOne 1 = .ok (.getfield 26, 3) := by decide +kernel
theorem dX4_measureOfOne_4 : decode cX4_measureOfOne 4 = .ok (.getfield 61, 3) := by decide +kernel
theorem dX4_measureOfOne_7 : decode cX4_measureOfOne 7 = .ok (.i2l, 1) := by decide +kernel
theorem dX4_measureOfOne_8 : decode cX4_measureOfOne 8 = .ok (.lstore_n 2, 1) := by decide +kernel
theorem dX4_measureOfOne_9 : decode cX4_measureOfOne 9 = .ok (.aload_n 0, 1) := by decide +kernel
theorem dX4_measureOfOne_10 : decode cX4_measureOfOne 10 = .ok (.getfield 26, 3) := by decide +kernel
theorem dX4_measureOfOne_13 : decode cX4_measureOfOne 13 = .ok (.getfield 83, 3) := by decide +kernel
theorem dX4_measureOfOne_16 : decode cX4_measureOfOne 16 = .ok (.i2l, 1) := by decide +kernel
theorem dX4_measureOfOne_17 : decode cX4_measureOfOne 17 = .ok (.lstore 4, 2) := by decide +kernel
theorem dX4_measureOfOne_19 : decode cX4_measureOfOne 19 = .ok (.aload_n 0, 1) := by decide +kernel
theorem dX4_measureOfOne_20 : decode cX4_measureOfOne 20 = .ok (.getfield 26, 3) := by decide +kernel
theorem dX4_measureOfOne_23 : decode cX4_measureOfOne 23 = .ok (.getfield 52, 3) := by decide +kernel
theorem dX4_measureOfOne_26 : decode cX4_measureOfOne 26 = .ok (.tableswitch 406 7 24 #[86, 406, 118, 180, 232, 406, 406, 254, 291, 406, 406, 341, 406, 406, 406, 406, 406, 371], 86) := by decide +kernel
theorem dX4_measureOfOne_112 : decode cX4_measureOfOne 112 = .ok (.aload_n 0, 1) := by decide +kernel
theorem dX4_measureOfOne_113 : decode cX4_measureOfOne 113 = .ok (.lload 4, 2) := by decide +kernel
theorem dX4_measureOfOne_115 : decode cX4_measureOfOne 115 = .ok (.aload_n 1, 1) := by decide +kernel
theorem dX4_measureOfOne_116 : decode cX4_measureOfOne 116 = .ok (.getfield 7, 3) := by decide +kernel
theorem dX4_measureOfOne_119 : decode cX4_measureOfOne 119 = .ok (.lmul, 1) := by decide +kernel
theorem dX4_measureOfOne_120 : decode cX4_measureOfOne 120 = .ok (.lload_n 2, 1) := by decide +kernel
theorem dX4_measureOfOne_121 : decode cX4_measureOfOne 121 = .ok (.aload_n 1, 1) := by decide +kernel
theorem dX4_measureOfOne_122 : decode cX4_measureOfOne 122 = .ok (.getfield 13, 3) := by decide +kernel
theorem dX4_measureOfOne_125 : decode cX4_measureOfOne 125 = .ok (.lmul, 1) := by decide +kernel
theorem dX4_measureOfOne_126 : decode cX4_measureOfOne 126 = .ok (.aload_n 1, 1) := by decide +kernel
theorem dX4_measureOfOne_127 : decode cX4_measureOfOne 127 = .ok (.getfield 16, 3) := by decide +kernel
theorem dX4_measureOfOne_130 : decode cX4_measureOfOne 130 = .ok (.lload_n 2, 1) := by decide +kernel
theorem dX4_measureOfOne_131 : decode cX4_measureOfOne 131 = .ok (.aload_n 1, 1) := by decide +kernel
theorem dX4_measureOfOne_132 : decode cX4_measureOfOne 132 = .ok (.getfield 19, 3) := by decide +kernel
theorem dX4_measureOfOne_135 : decode cX4_measureOfOne 135 = .ok (.lmul, 1) := by decide +kernel
theorem dX4_measureOfOne_136 : decode cX4_measureOfOne 136 = .ok (.lconst 1, 1) := by decide +kernel
theorem dX4_measureOfOne_137 : decode cX4_measureOfOne 137 = .ok (.ladd, 1) := by decide +kernel
theorem dX4_measureOfOne_138 : decode cX4_measureOfOne 138 = .ok (.invokevirtual 57, 3) := by decide +kernel
theorem dX4_measureOfOne_141 : decode cX4_measureOfOne 141 = .ok (.goto 313, 3) := by decide +kernel
theorem dX4_measureOfOne_144 : decode cX4_measureOfOne 144 = .ok (.lload_n 2, 1) := by decide +kernel
theorem dX4_measureOfOne_145 : decode cX4_measureOfOne 145 = .ok (.lload 4, 2) := by decide +kernel
theorem dX4_measureOfOne_147 : decode cX4_measureOfOne 147 = .ok (.invokestatic 94, 3) := by decide +kernel
theorem dX4_measureOfOne_150 : decode cX4_measureOfOne 150 = .ok (.lload 4, 2) := by decide +kernel
theorem dX4_measureOfOne_152 : decode cX4_measureOfOne 152 = .ok (.lconst 1, 1) := by decide +kernel
theorem dX4_measureOfOne_153 : decode cX4_measureOfOne 153 = .ok (.lcmp, 1) := by decide +kernel
theorem dX4_measureOfOne_154 : decode cX4_measureOfOne 154 = .ok (.ifCond .ne 7, 3) := by decide +kernel
theorem dX4_measureOfOne_157 : decode cX4_measureOfOne 157 = .ok (.iconst 0, 1) := by decide +kernel
theorem dX4_measureOfOne_158 : decode cX4_measureOfOne 158 = .ok (.goto 4, 3) := by decide +kernel
theorem dX4_measureOfOne_161 : decode cX4_measureOfOne 161 = .ok (.iconst 1, 1) := by decide +kernel
theorem dX4_measureOfOne_162 : decode cX4_measureOfOne 162 = .ok (.i2l, 1) := by decide +kernel
theorem dX4_measureOfOne_163 : decode cX4_measureOfOne 163 = .ok (.ladd, 1) := by decide +kernel
theorem dX4_measureOfOne_164 : decode cX4_measureOfOne 164 = .ok (.lstore 6, 2) := by decide +kernel
theorem dX4_measureOfOne_166 : decode cX4_measureOfOne 166 = .ok (.aload_n 0, 1) := by decide +kernel
theorem dX4_measureOfOne_167 : decode cX4_measureOfOne 167 = .ok (.lload_n 2, 1) := by decide +kernel
theorem dX4_measureOfOne_168 : decode cX4_measureOfOne 168 = .ok (.aload_n 1, 1) := by decide +kernel
theorem dX4_measureOfOne_169 : decode cX4_measureOfOne 169 = .ok (.getfield 7, 3) := by decide +kernel
theorem dX4_measureOfOne_172 : decode cX4_measureOfOne 172 = .ok (.lmul, 1) := by decide +kernel
theorem dX4_measureOfOne_173 : decode cX4_measureOfOne 173 = .ok (.lload 6, 2) := by decide +kernel
theorem dX4_measureOfOne_175 : decode cX4_measureOfOne 175 = .ok (.aload_n 1, 1) := by decide +kernel
theorem dX4_measureOfOne_176 : decode cX4_measureOfOne 176 = .ok (.getfield 13, 3) := by decide +kernel
theorem dX4_measureOfOne_179 : decode cX4_measureOfOne 179 = .ok (.lmul, 1) := by decide +kernel
theorem dX4_measureOfOne_180 : decode cX4_measureOfOne 180 = .ok (.aload_n 1, 1) := by decide +kernel
theorem dX4_measureOfOne_181 : decode cX4_measureOfOne 181 = .ok (.getfield 16, 3) := by decide +kernel
theorem dX4_measureOfOne_184 : decode cX4_measureOfOne 184 = .ok (.lload 4, 2) := by decide +kernel
theorem dX4_measureOfOne_186 : decode cX4_measureOfOne 186 = .ok (.lmul, 1) := by decide +kernel
theorem dX4_measureOfOne_187 : decode cX4_measureOfOne 187 = .ok (.lload_n 2, 1) := by decide +kernel
theorem dX4_measureOfOne_188 : decode cX4_measureOfOne 188 = .ok (.invokestatic 94, 3) := by decide +kernel
theorem dX4_measureOfOne_191 : decode cX4_measureOfOne 191 = .ok (.lload 6, 2) := by decide +kernel
theorem dX4_measureOfOne_193 : decode cX4_measureOfOne 193 = .ok (.aload_n 1, 1) := by decide +kernel
theorem dX4_measureOfOne_194 : decode cX4_measureOfOne 194 = .ok (.getfield 19, 3) := by decide +kernel
theorem dX4_measureOfOne_197 : decode cX4_measureOfOne 197 = .ok (.lmul, 1) := by decide +kernel
theorem dX4_measureOfOne_198 : decode cX4_measureOfOne 198 = .ok (.lconst 1, 1) := by decide +kernel
theorem dX4_measureOfOne_199 : decode cX4_measureOfOne 199 = .ok (.ladd, 1) := by decide +kernel
theorem dX4_measureOfOne_200 : decode cX4_measureOfOne 200 = .ok (.invokevirtual 57, 3) := by decide +kernel
theorem dX4_measureOfOne_203 : decode cX4_measureOfOne 203 = .ok (.goto 251, 3) := by decide +kernel
theorem dX4_measureOfOne_206 : decode cX4_measureOfOne 206 = .ok (.lload 4, 2) := by decide +kernel
theorem dX4_measureOfOne_208 : decode cX4_measureOfOne 208 = .ok (.lconst 1, 1) := by decide +kernel
theorem dX4_measureOfOne_209 : decode cX4_measureOfOne 209 = .ok (.lcmp, 1) := by decide +kernel
theorem dX4_measureOfOne_210 : decode cX4_measureOfOne 210 = .ok (.ifCond .ne 7, 3) := by decide +kernel
theorem dX4_measureOfOne_213 : decode cX4_measureOfOne 213 = .ok (.lconst 1, 1) := by decide +kernel
theorem dX4_measureOfOne_214 : decode cX4_measureOfOne 214 = .ok (.goto 6, 3) := by decide +kernel
theorem dX4_measureOfOne_217 : decode cX4_measureOfOne 217 = .ok (.ldc2_w 99, 3) := by decide +kernel
theorem dX4_measureOfOne_220 : decode cX4_measureOfOne 220 = .ok (.lstore 8, 2) := by decide +kernel
theorem dX4_measureOfOne_222 : decode cX4_measureOfOne 222 = .ok (.aload_n 0, 1) := by decide +kernel
theorem dX4_measureOfOne_223 : decode cX4_measureOfOne 223 = .ok (.aload_n 1, 1) := by decide +kernel
theorem dX4_measureOfOne_224 : decode cX4_measureOfOne 224 = .ok (.getfield 7, 3) := by decide +kernel
theorem dX4_measureOfOne_227 : decode cX4_measureOfOne 227 = .ok (.lload 4, 2) := by decide +kernel
theorem dX4_measureOfOne_229 : decode cX4_measureOfOne 229 = .ok (.invokestatic 101, 3) := by decide +kernel
theorem dX4_measureOfOne_232 : decode cX4_measureOfOne 232 = .ok (.lload 8, 2) := by decide +kernel
theorem dX4_measureOfOne_234 : decode cX4_measureOfOne 234 = .ok (.aload_n 1, 1) := by decide +kernel
theorem dX4_measureOfOne_235 : decode cX4_measureOfOne 235 = .ok (.getfield 13, 3) := by decide +kernel
theorem dX4_measureOfOne_238 : decode cX4_measureOfOne 238 = .ok (.lmul, 1) := by decide +kernel
theorem dX4_measureOfOne_239 : decode cX4_measureOfOne 239 = .ok (.aload_n 1, 1) := by decide +kernel
theorem dX4_measureOfOne_240 : decode cX4_measureOfOne 240 = .ok (.getfield 16, 3) := by decide +kernel
theorem dX4_measureOfOne_243 : decode cX4_measureOfOne 243 = .ok (.lload 8, 2) := by decide +kernel
theorem dX4_measureOfOne_245 : decode cX4_measureOfOne 245 = .ok (.aload_n 1, 1) := by decide +kernel
theorem dX4_measureOfOne_246 : decode cX4_measureOfOne 246 = .ok (.getfield 19, 3) := by decide +kernel
theorem dX4_measureOfOne_249 : decode cX4_measureOfOne 249 = .ok (.lmul, 1) := by decide +kernel
theorem dX4_measureOfOne_250 : decode cX4_measureOfOne 250 = .ok (.lconst 1, 1) := by decide +kernel
theorem dX4_measureOfOne_251 : decode cX4_measureOfOne 251 = .ok (.ladd, 1) := by decide +kernel
theorem dX4_measureOfOne_252 : decode cX4_measureOfOne 252 = .ok (.invokevirtual 57, 3) := by decide +kernel
theorem dX4_measureOfOne_255 : decode cX4_measureOfOne 255 = .ok (.goto 199, 3) := by decide +kernel
theorem dX4_measureOfOne_258 : decode cX4_measureOfOne 258 = .ok (.aload_n 0, 1) := by decide +kernel
theorem dX4_measureOfOne_259 : decode cX4_measureOfOne 259 = .ok (.aload_n 1, 1) := by decide +kernel
theorem dX4_measureOfOne_260 : decode cX4_measureOfOne 260 = .ok (.getfield 7, 3) := by decide +kernel
theorem dX4_measureOfOne_263 : decode cX4_measureOfOne 263 = .ok (.aload_n 1, 1) := by decide +kernel
theorem dX4_measureOfOne_264 : decode cX4_measureOfOne 264 = .ok (.getfield 13, 3) := by decide +kernel
theorem dX4_measureOfOne_267 : decode cX4_measureOfOne 267 = .ok (.lconst 1, 1) := by decide +kernel
theorem dX4_measureOfOne_268 : decode cX4_measureOfOne 268 = .ok (.aload_n 1, 1) := by decide +kernel
theorem dX4_measureOfOne_269 : decode cX4_measureOfOne 269 = .ok (.getfield 19, 3) := by decide +kernel
theorem dX4_measureOfOne_272 : decode cX4_measureOfOne 272 = .ok (.lconst 1, 1) := by decide +kernel
theorem dX4_measureOfOne_273 : decode cX4_measureOfOne 273 = .ok (.ladd, 1) := by decide +kernel
theorem dX4_measureOfOne_274 : decode cX4_measureOfOne 274 = .ok (.invokevirtual 57, 3) := by decide +kernel
theorem dX4_measureOfOne_277 : decode cX4_measureOfOne 277 = .ok (.goto 177, 3) := by decide +kernel
theorem dX4_measureOfOne_280 : decode cX4_measureOfOne 280 = .ok (.aload_n 0, 1) := by decide +kernel
theorem dX4_measureOfOne_281 : decode cX4_measureOfOne 281 = .ok (.aload_n 1, 1) := by decide +kernel
theorem dX4_measureOfOne_282 : decode cX4_measureOfOne 282 = .ok (.getfield 7, 3) := by decide +kernel
theorem dX4_measureOfOne_285 : decode cX4_measureOfOne 285 = .ok (.lload_n 2, 1) := by decide +kernel
theorem dX4_measureOfOne_286 : decode cX4_measureOfOne 286 = .ok (.invokestatic 101, 3) := by decide +kernel
theorem dX4_measureOfOne_289 : decode cX4_measureOfOne 289 = .ok (.ldc2_w 99, 3) := by decide +kernel
theorem dX4_measureOfOne_292 : decode cX4_measureOfOne 292 = .ok (.aload_n 1, 1) := by decide +kernel
theorem dX4_measureOfOne_293 : decode cX4_measureOfOne 293 = .ok (.getfield 13, 3) := by decide +kernel
theorem dX4_measureOfOne_296 : decode cX4_measureOfOne 296 = .ok (.lmul, 1) := by decide +kernel
theorem dX4_measureOfOne_297 : decode cX4_measureOfOne 297 = .ok (.aload_n 1, 1) := by decide +kernel
theorem dX4_measureOfOne_298 : decode cX4_measureOfOne 298 = .ok (.getfield 16, 3) := by decide +kernel
theorem dX4_measureOfOne_301 : decode cX4_measureOfOne 301 = .ok (.ldc2_w 99, 3) := by decide +kernel
theorem dX4_measureOfOne_304 : decode cX4_measureOfOne 304 = .ok (.aload_n 1, 1) := by decide +kernel
theorem dX4_measureOfOne_305 : decode cX4_measureOfOne 305 = .ok (.getfield 19, 3) := by decide +kernel
theorem dX4_measureOfOne_308 : decode cX4_measureOfOne 308 = .ok (.lmul, 1) := by decide +kernel
theorem dX4_measureOfOne_309 : decode cX4_measureOfOne 309 = .ok (.lconst 1, 1) := by decide +kernel
theorem dX4_measureOfOne_310 : decode cX4_measureOfOne 310 = .ok (.ladd, 1) := by decide +kernel
theorem dX4_measureOfOne_311 : decode cX4_measureOfOne 311 = .ok (.invokevirtual 57, 3) := by decide +kernel
theorem dX4_measureOfOne_314 : decode cX4_measureOfOne 314 = .ok (.goto 140, 3) := by decide +kernel
theorem dX4_measureOfOne_317 : decode cX4_measureOfOne 317 = .ok (.aload_n 1, 1) := by decide +kernel
theorem dX4_measureOfOne_318 : decode cX4_measureOfOne 318 = .ok (.getfield 16, 3) := by decide +kernel
theorem dX4_measureOfOne_321 : decode cX4_measureOfOne 321 = .ok (.lconst 1, 1) := by decide +kernel
theorem dX4_measureOfOne_322 : decode cX4_measureOfOne 322 = .ok (.ladd, 1) := by decide +kernel
theorem dX4_measureOfOne_323 : decode cX4_measureOfOne 323 = .ok (.lstore 10, 2) := by decide +kernel
theorem dX4_measureOfOne_325 : decode cX4_measureOfOne 325 = .ok (.aload_n 0, 1) := by decide +kernel
theorem dX4_measureOfOne_326 : decode cX4_measureOfOne 326 = .ok (.lload_n 2, 1) := by decide +kernel
theorem dX4_measureOfOne_327 : decode cX4_measureOfOne 327 = .ok (.aload_n 1, 1) := by decide +kernel
theorem dX4_measureOfOne_328 : decode cX4_measureOfOne 328 = .ok (.getfield 7, 3) := by decide +kernel
theorem dX4_measureOfOne_331 : decode cX4_measureOfOne 331 = .ok (.lmul, 1) := by decide +kernel
theorem dX4_measureOfOne_332 : decode cX4_measureOfOne 332 = .ok (.lload_n 2, 1) := by decide +kernel
theorem dX4_measureOfOne_333 : decode cX4_measureOfOne 333 = .ok (.aload_n 1, 1) := by decide +kernel
theorem dX4_measureOfOne_334 : decode cX4_measureOfOne 334 = .ok (.getfield 13, 3) := by decide +kernel
theorem dX4_measureOfOne_337 : decode cX4_measureOfOne 337 = .ok (.lmul, 1) := by decide +kernel
theorem dX4_measureOfOne_338 : decode cX4_measureOfOne 338 = .ok (.lload 10, 2) := by decide +kernel
theorem dX4_measureOfOne_340 : decode cX4_measureOfOne 340 = .ok (.lmul, 1) := by decide +kernel
theorem dX4_measureOfOne_341 : decode cX4_measureOfOne 341 = .ok (.aload_n 1, 1) := by decide +kernel
theorem dX4_measureOfOne_342 : decode cX4_measureOfOne 342 = .ok (.getfield 16, 3) := by decide +kernel
theorem dX4_measureOfOne_345 : decode cX4_measureOfOne 345 = .ok (.lload 10, 2) := by decide +kernel
theorem dX4_measureOfOne_347 : decode cX4_measureOfOne 347 = .ok (.aload_n 1, 1) := by decide +kernel
theorem dX4_measureOfOne_348 : decode cX4_measureOfOne 348 = .ok (.getfield 19, 3) := by decide +kernel
theorem dX4_measureOfOne_351 : decode cX4_measureOfOne 351 = .ok (.lload_n 2, 1) := by decide +kernel
theorem dX4_measureOfOne_352 : decode cX4_measureOfOne 352 = .ok (.aload_n 1, 1) := by decide +kernel
theorem dX4_measureOfOne_353 : decode cX4_measureOfOne 353 = .ok (.getfield 13, 3) := by decide +kernel
theorem dX4_measureOfOne_356 : decode cX4_measureOfOne 356 = .ok (.lmul, 1) := by decide +kernel
theorem dX4_measureOfOne_357 : decode cX4_measureOfOne 357 = .ok (.ladd, 1) := by decide +kernel
theorem dX4_measureOfOne_358 : decode cX4_measureOfOne 358 = .ok (.lmul, 1) := by decide +kernel
theorem dX4_measureOfOne_359 : decode cX4_measureOfOne 359 = .ok (.lconst 1, 1) := by decide +kernel
theorem dX4_measureOfOne_360 : decode cX4_measureOfOne 360 = .ok (.ladd, 1) := by decide +kernel
theorem dX4_measureOfOne_361 : decode cX4_measureOfOne 361 = .ok (.invokevirtual 57, 3) := by decide +kernel
theorem dX4_measureOfOne_364 : decode cX4_measureOfOne 364 = .ok (.goto 90, 3) := by decide +kernel
theorem dX4_measureOfOne_367 : decode cX4_measureOfOne 367 = .ok (.aload_n 0, 1) := by decide +kernel
theorem dX4_measureOfOne_368 : decode cX4_measureOfOne 368 = .ok (.aload_n 1, 1) := by decide +kernel
theorem dX4_measureOfOne_369 : decode cX4_measureOfOne 369 = .ok (.getfield 7, 3) := by decide +kernel
theorem dX4_measureOfOne_372 : decode cX4_measureOfOne 372 = .ok (.aload_n 1, 1) := by decide +kernel
theorem dX4_measureOfOne_373 : decode cX4_measureOfOne 373 = .ok (.getfield 13, 3) := by decide +kernel
theorem dX4_measureOfOne_376 : decode cX4_measureOfOne 376 = .ok (.aload_n 1, 1) := by decide +kernel
theorem dX4_measureOfOne_377 : decode cX4_measureOfOne 377 = .ok (.getfield 16, 3) := by decide +kernel
theorem dX4_measureOfOne_380 : decode cX4_measureOfOne 380 = .ok (.aload_n 1, 1) := by decide +kernel
theorem dX4_measureOfOne_381 : decode cX4_measureOfOne 381 = .ok (.getfield 19, 3) := by decide +kernel
theorem dX4_measureOfOne_384 : decode cX4_measureOfOne 384 = .ok (.aload_n 1, 1) := by decide +kernel
theorem dX4_measureOfOne_385 : decode cX4_measureOfOne 385 = .ok (.getfield 13, 3) := by decide +kernel
theorem dX4_measureOfOne_388 : decode cX4_measureOfOne 388 = .ok (.ladd, 1) := by decide +kernel
theorem dX4_measureOfOne_389 : decode cX4_measureOfOne 389 = .ok (.lconst 1, 1) := by decide +kernel
theorem dX4_measureOfOne_390 : decode cX4_measureOfOne 390 = .ok (.ladd, 1) := by decide +kernel
theorem dX4_measureOfOne_391 : decode cX4_measureOfOne 391 = .ok (.invokevirtual 57, 3) := by decide +kernel
theorem dX4_measureOfOne_394 : decode cX4_measureOfOne 394 = .ok (.goto 60, 3) := by decide +kernel
theorem dX4_measureOfOne_397 : decode cX4_measureOfOne 397 = .ok (.aload_n 0, 1) := by decide +kernel
theorem dX4_measureOfOne_398 : decode cX4_measureOfOne 398 = .ok (.lload 4, 2) := by decide +kernel
theorem dX4_measureOfOne_400 : decode cX4_measureOfOne 400 = .ok (.aload_n 0, 1) := by decide +kernel
theorem dX4_measureOfOne_401 : decode cX4_measureOfOne 401 = .ok (.invokevirtual 104, 3) := by decide +kernel
theorem dX4_measureOfOne_404 : decode cX4_measureOfOne 404 = .ok (.aload_n 1, 1) := by decide +kernel
theorem dX4_measureOfOne_405 : decode cX4_measureOfOne 405 = .ok (.getfield 7, 3) := by decide +kernel
theorem dX4_measureOfOne_408 : decode cX4_measureOfOne 408 = .ok (.lmul, 1) := by decide +kernel
theorem dX4_measureOfOne_409 : decode cX4_measureOfOne 409 = .ok (.invokestatic 101, 3) := by decide +kernel
theorem dX4_measureOfOne_412 : decode cX4_measureOfOne 412 = .ok (.aload_n 1, 1) := by decide +kernel
theorem dX4_measureOfOne_413 : decode cX4_measureOfOne 413 = .ok (.getfield 13, 3) := by decide +kernel
theorem dX4_measureOfOne_416 : decode cX4_measureOfOne 416 = .ok (.aload_n 1, 1) := by decide +kernel
theorem dX4_measureOfOne_417 : decode cX4_measureOfOne 417 = .ok (.getfield 16, 3) := by decide +kernel
theorem dX4_measureOfOne_420 : decode cX4_measureOfOne 420 = .ok (.aload_n 1, 1) := by decide +kernel
theorem dX4_measureOfOne_421 : decode cX4_measureOfOne 421 = .ok (.getfield 19, 3) := by decide +kernel
theorem dX4_measureOfOne_424 : decode cX4_measureOfOne 424 = .ok (.lconst 1, 1) := by decide +kernel
theorem dX4_measureOfOne_425 : decode cX4_measureOfOne 425 = .ok (.ladd, 1) := by decide +kernel
theorem dX4_measureOfOne_426 : decode cX4_measureOfOne 426 = .ok (.invokevirtual 57, 3) := by decide +kernel
theorem dX4_measureOfOne_429 : decode cX4_measureOfOne 429 = .ok (.goto 25, 3) := by decide +kernel
theorem dX4_measureOfOne_432 : decode cX4_measureOfOne 432 = .ok (.aload_n 0, 1) := by decide +kernel
theorem dX4_measureOfOne_433 : decode cX4_measureOfOne 433 = .ok (.aload_n 1, 1) := by decide +kernel
theorem dX4_measureOfOne_434 : decode cX4_measureOfOne 434 = .ok (.getfield 7, 3) := by decide +kernel
theorem dX4_measureOfOne_437 : decode cX4_measureOfOne 437 = .ok (.aload_n 1, 1) := by decide +kernel
theorem dX4_measureOfOne_438 : decode cX4_measureOfOne 438 = .ok (.getfield 13, 3) := by decide +kernel
theorem dX4_measureOfOne_441 : decode cX4_measureOfOne 441 = .ok (.aload_n 1, 1) := by decide +kernel
theorem dX4_measureOfOne_442 : decode cX4_measureOfOne 442 = .ok (.getfield 16, 3) := by decide +kernel
theorem dX4_measureOfOne_445 : decode cX4_measureOfOne 445 = .ok (.aload_n 1, 1) := by decide +kernel
theorem dX4_measureOfOne_446 : decode cX4_measureOfOne 446 = .ok (.getfield 19, 3) := by decide +kernel
theorem dX4_measureOfOne_449 : decode cX4_measureOfOne 449 = .ok (.lconst 1, 1) := by decide +kernel
theorem dX4_measureOfOne_450 : decode cX4_measureOfOne 450 = .ok (.ladd, 1) := by decide +kernel
theorem dX4_measureOfOne_451 : decode cX4_measureOfOne 451 = .ok (.invokevirtual 57, 3) := by decide +kernel
theorem dX4_measureOfOne_454 : decode cX4_measureOfOne 454 = .ok (.return_, 1) := by decide +kernel
theorem dX4_spanUpper_0 : decode cX4_spanUpper 0 = .ok (.aload_n 0, 1) := by decide +kernel
theorem dX4_spanUpper_1 : decode cX4_spanUpper 1 = .ok (.getfield 26, 3) := by decide +kernel
theorem dX4_spanUpper_4 : decode cX4_spanUpper 4 = .ok (.getfield 107, 3) := by decide +kernel
theorem dX4_spanUpper_7 : decode cX4_spanUpper 7 = .ok (.i2l, 1) := by decide +kernel
theorem dX4_spanUpper_8 : decode cX4_spanUpper 8 = .ok (.aload_n 0, 1) := by decide +kernel
theorem dX4_spanUpper_9 : decode cX4_spanUpper 9 = .ok (.getfield 26, 3) := by decide +kernel
theorem dX4_spanUpper_12 : decode cX4_spanUpper 12 = .ok (.getfield 83, 3) := by decide +kernel
theorem dX4_spanUpper_15 : decode cX4_spanUpper 15 = .ok (.i2l, 1) := by decide +kernel
theorem dX4_spanUpper_16 : decode cX4_spanUpper 16 = .ok (.lmul, 1) := by decide +kernel
theorem dX4_spanUpper_17 : decode cX4_spanUpper 17 = .ok (.aload_n 0, 1) := by decide +kernel
theorem dX4_spanUpper_18 : decode cX4_spanUpper 18 = .ok (.getfield 26, 3) := by decide +kernel
theorem dX4_spanUpper_21 : decode cX4_spanUpper 21 = .ok (.getfield 61, 3) := by decide +kernel
theorem dX4_spanUpper_24 : decode cX4_spanUpper 24 = .ok (.i2l, 1) := by decide +kernel
theorem dX4_spanUpper_25 : decode cX4_spanUpper 25 = .ok (.aload_n 0, 1) := by decide +kernel
theorem dX4_spanUpper_26 : decode cX4_spanUpper 26 = .ok (.getfield 26, 3) := by decide +kernel
theorem dX4_spanUpper_29 : decode cX4_spanUpper 29 = .ok (.getfield 110, 3) := by decide +kernel
theorem dX4_spanUpper_32 : decode cX4_spanUpper 32 = .ok (.i2l, 1) := by decide +kernel
theorem dX4_spanUpper_33 : decode cX4_spanUpper 33 = .ok (.lmul, 1) := by decide +kernel
theorem dX4_spanUpper_34 : decode cX4_spanUpper 34 = .ok (.lsub, 1) := by decide +kernel
theorem dX4_spanUpper_35 : decode cX4_spanUpper 35 = .ok (.lstore_n 1, 1) := by decide +kernel
theorem dX4_spanUpper_36 : decode cX4_spanUpper 36 = .ok (.lload_n 1, 1) := by decide +kernel
theorem dX4_spanUpper_37 : decode cX4_spanUpper 37 = .ok (.lload_n 1, 1) := by decide +kernel
theorem dX4_spanUpper_38 : decode cX4_spanUpper 38 = .ok (.aload_n 0, 1) := by decide +kernel
theorem dX4_spanUpper_39 : decode cX4_spanUpper 39 = .ok (.getfield 26, 3) := by decide +kernel
theorem dX4_spanUpper_42 : decode cX4_spanUpper 42 = .ok (.getfield 83, 3) := by decide +kernel
theorem dX4_spanUpper_45 : decode cX4_spanUpper 45 = .ok (.i2l, 1) := by decide +kernel
theorem dX4_spanUpper_46 : decode cX4_spanUpper 46 = .ok (.aload_n 0, 1) := by decide +kernel
theorem dX4_spanUpper_47 : decode cX4_spanUpper 47 = .ok (.getfield 26, 3) := by decide +kernel
theorem dX4_spanUpper_50 : decode cX4_spanUpper 50 = .ok (.getfield 110, 3) := by decide +kernel
theorem dX4_spanUpper_53 : decode cX4_spanUpper 53 = .ok (.i2l, 1) := by decide +kernel
theorem dX4_spanUpper_54 : decode cX4_spanUpper 54 = .ok (.lmul, 1) := by decide +kernel
theorem dX4_spanUpper_55 : decode cX4_spanUpper 55 = .ok (.invokestatic 34, 3) := by decide +kernel
theorem dX4_spanUpper_58 : decode cX4_spanUpper 58 = .ok (.ldiv, 1) := by decide +kernel
theorem dX4_spanUpper_59 : decode cX4_spanUpper 59 = .ok (.lreturn, 1) := by decide +kernel
theorem dX4_spanLower_0 : decode cX4_spanLower 0 = .ok (.aload_n 0, 1) := by decide +kernel
theorem dX4_spanLower_1 : decode cX4_spanLower 1 = .ok (.getfield 26, 3) := by decide +kernel
theorem dX4_spanLower_4 : decode cX4_spanLower 4 = .ok (.getfield 107, 3) := by decide +kernel
theorem dX4_spanLower_7 : decode cX4_spanLower 7 = .ok (.i2l, 1) := by decide +kernel
theorem dX4_spanLower_8 : decode cX4_spanLower 8 = .ok (.aload_n 0, 1) := by decide +kernel
theorem dX4_spanLower_9 : decode cX4_spanLower 9 = .ok (.getfield 26, 3) := by decide +kernel
theorem dX4_spanLower_12 : decode cX4_spanLower 12 = .ok (.getfield 83, 3) := by decide +kernel
theorem dX4_spanLower_15 : decode cX4_spanLower 15 = .ok (.i2l, 1) := by decide +kernel
theorem dX4_spanLower_16 : decode cX4_spanLower 16 = .ok (.lmul, 1) := by decide +kernel
theorem dX4_spanLower_17 : decode cX4_spanLower 17 = .ok (.aload_n 0, 1) := by decide +kernel
theorem dX4_spanLower_18 : decode cX4_spanLower 18 = .ok (.getfield 26, 3) := by decide +kernel
theorem dX4_spanLower_21 : decode cX4_spanLower 21 = .ok (.getfield 61, 3) := by decide +kernel
theorem dX4_spanLower_24 : decode cX4_spanLower 24 = .ok (.i2l, 1) := by decide +kernel
theorem dX4_spanLower_25 : decode cX4_spanLower 25 = .ok (.aload_n 0, 1) := by decide +kernel
theorem dX4_spanLower_26 : decode cX4_spanLower 26 = .ok (.getfield 26, 3) := by decide +kernel
theorem dX4_spanLower_29 : decode cX4_spanLower 29 = .ok (.getfield 110, 3) := by decide +kernel
theorem dX4_spanLower_32 : decode cX4_spanLower 32 = .ok (.i2l, 1) := by decide +kernel
theorem dX4_spanLower_33 : decode cX4_spanLower 33 = .ok (.lmul, 1) := by decide +kernel
theorem dX4_spanLower_34 : decode cX4_spanLower 34 = .ok (.lsub, 1) := by decide +kernel
theorem dX4_spanLower_35 : decode cX4_spanLower 35 = .ok (.lstore_n 1, 1) := by decide +kernel
theorem dX4_spanLower_36 : decode cX4_spanLower 36 = .ok (.aload_n 0, 1) := by decide +kernel
theorem dX4_spanLower_37 : decode cX4_spanLower 37 = .ok (.getfield 26, 3) := by decide +kernel
theorem dX4_spanLower_40 : decode cX4_spanLower 40 = .ok (.getfield 83, 3) := by decide +kernel
theorem dX4_spanLower_43 : decode cX4_spanLower 43 = .ok (.i2l, 1) := by decide +kernel
theorem dX4_spanLower_44 : decode cX4_spanLower 44 = .ok (.aload_n 0, 1) := by decide +kernel
theorem dX4_spanLower_45 : decode cX4_spanLower 45 = .ok (.getfield 26, 3) := by decide +kernel
theorem dX4_spanLower_48 : decode cX4_spanLower 48 = .ok (.getfield 110, 3) := by decide +kernel
theorem dX4_spanLower_51 : decode cX4_spanLower 51 = .ok (.i2l, 1) := by decide +kernel
theorem dX4_spanLower_52 : decode cX4_spanLower 52 = .ok (.lmul, 1) := by decide +kernel
theorem dX4_spanLower_53 : decode cX4_spanLower 53 = .ok (.lstore_n 3, 1) := by decide +kernel
theorem dX4_spanLower_54 : decode cX4_spanLower 54 = .ok (.lload_n 3, 1) := by decide +kernel
theorem dX4_spanLower_55 : decode cX4_spanLower 55 = .ok (.lload_n 1, 1) := by decide +kernel
theorem dX4_spanLower_56 : decode cX4_spanLower 56 = .ok (.lload_n 3, 1) := by decide +kernel
theorem dX4_spanLower_57 : decode cX4_spanLower 57 = .ok (.invokestatic 34, 3) := by decide +kernel
theorem dX4_spanLower_60 : decode cX4_spanLower 60 = .ok (.ldiv, 1) := by decide +kernel
theorem dX4_spanLower_61 : decode cX4_spanLower 61 = .ok (.lreturn, 1) := by decide +kernel
theorem dX4_lcmOfAll_0 : decode cX4_lcmOfAll 0 = .ok (.lconst 1, 1) := by decide +kernel
theorem dX4_lcmOfAll_1 : decode cX4_lcmOfAll 1 = .ok (.lstore_n 1, 1) := by decide +kernel
theorem dX4_lcmOfAll_2 : decode cX4_lcmOfAll 2 = .ok (.iconst 0, 1) := by decide +kernel
theorem dX4_lcmOfAll_3 : decode cX4_lcmOfAll 3 = .ok (.istore_n 3, 1) := by decide +kernel
theorem dX4_lcmOfAll_4 : decode cX4_lcmOfAll 4 = .ok (.iload_n 3, 1) := by decide +kernel
theorem dX4_lcmOfAll_5 : decode cX4_lcmOfAll 5 = .ok (.aload_n 0, 1) := by decide +kernel
theorem dX4_lcmOfAll_6 : decode cX4_lcmOfAll 6 = .ok (.getfield 30, 3) := by decide +kernel
theorem dX4_lcmOfAll_9 : decode cX4_lcmOfAll 9 = .ok (.arraylength, 1) := by decide +kernel
theorem dX4_lcmOfAll_10 : decode cX4_lcmOfAll 10 = .ok (.if_icmp .ge 31, 3) := by decide +kernel
theorem dX4_lcmOfAll_13 : decode cX4_lcmOfAll 13 = .ok (.lload_n 1, 1) := by decide +kernel
theorem dX4_lcmOfAll_14 : decode cX4_lcmOfAll 14 = .ok (.ldc2_w 38, 3) := by decide +kernel
theorem dX4_lcmOfAll_17 : decode cX4_lcmOfAll 17 = .ok (.lcmp, 1) := by decide +kernel
theorem dX4_lcmOfAll_18 : decode cX4_lcmOfAll 18 = .ok (.ifCond .gt 23, 3) := by decide +kernel
theorem dX4_lcmOfAll_21 : decode cX4_lcmOfAll 21 = .ok (.lload_n 1, 1) := by decide +kernel
theorem dX4_lcmOfAll_22 : decode cX4_lcmOfAll 22 = .ok (.aload_n 0, 1) := by decide +kernel
theorem dX4_lcmOfAll_23 : decode cX4_lcmOfAll 23 = .ok (.getfield 30, 3) := by decide +kernel
theorem dX4_lcmOfAll_26 : decode cX4_lcmOfAll 26 = .ok (.iload_n 3, 1) := by decide +kernel
theorem dX4_lcmOfAll_27 : decode cX4_lcmOfAll 27 = .ok (.aaload, 1) := by decide +kernel
theorem dX4_lcmOfAll_28 : decode cX4_lcmOfAll 28 = .ok (.getfield 7, 3) := by decide +kernel
theorem dX4_lcmOfAll_31 : decode cX4_lcmOfAll 31 = .ok (.invokestatic 101, 3) := by decide +kernel
theorem dX4_lcmOfAll_34 : decode cX4_lcmOfAll 34 = .ok (.lstore_n 1, 1) := by decide +kernel
theorem dX4_lcmOfAll_35 : decode cX4_lcmOfAll 35 = .ok (.iinc 3 1, 3) := by decide +kernel
theorem dX4_lcmOfAll_38 : decode cX4_lcmOfAll 38 = .ok (.goto (-34), 3) := by decide +kernel
theorem dX4_lcmOfAll_41 : decode cX4_lcmOfAll 41 = .ok (.lload_n 1, 1) := by decide +kernel
theorem dX4_lcmOfAll_42 : decode cX4_lcmOfAll 42 = .ok (.lreturn, 1) := by decide +kernel
theorem dX4_repeatsOf_0 : decode cX4_repeatsOf 0 = .ok (.aload_n 0, 1) := by decide +kernel
theorem dX4_repeatsOf_1 : decode cX4_repeatsOf 1 = .ok (.getfield 26, 3) := by decide +kernel
theorem dX4_repeatsOf_4 : decode cX4_repeatsOf 4 = .ok (.getfield 113, 3) := by decide +kernel
theorem dX4_repeatsOf_7 : decode cX4_repeatsOf 7 = .ok (.ifnull 15, 3) := by decide +kernel
theorem dX4_repeatsOf_10 : decode cX4_repeatsOf 10 = .ok (.iload_n 1, 1) := by decide +kernel
theorem dX4_repeatsOf_11 : decode cX4_repeatsOf 11 = .ok (.aload_n 0, 1) := by decide +kernel
theorem dX4_repeatsOf_12 : decode cX4_repeatsOf 12 = .ok (.getfield 26, 3) := by decide +kernel
theorem dX4_repeatsOf_15 : decode cX4_repeatsOf 15 = .ok (.getfield 113, 3) := by decide +kernel
theorem dX4_repeatsOf_18 : decode cX4_repeatsOf 18 = .ok (.arraylength, 1) := by decide +kernel
theorem dX4_repeatsOf_19 : decode cX4_repeatsOf 19 = .ok (.if_icmp .lt 7, 3) := by decide +kernel
theorem dX4_repeatsOf_22 : decode cX4_repeatsOf 22 = .ok (.lconst 1, 1) := by decide +kernel
theorem dX4_repeatsOf_23 : decode cX4_repeatsOf 23 = .ok (.goto 13, 3) := by decide +kernel
theorem dX4_repeatsOf_26 : decode cX4_repeatsOf 26 = .ok (.aload_n 0, 1) := by decide +kernel
theorem dX4_repeatsOf_27 : decode cX4_repeatsOf 27 = .ok (.getfield 26, 3) := by decide +kernel
theorem dX4_repeatsOf_30 : decode cX4_repeatsOf 30 = .ok (.getfield 113, 3) := by decide +kernel
theorem dX4_repeatsOf_33 : decode cX4_repeatsOf 33 = .ok (.iload_n 1, 1) := by decide +kernel
theorem dX4_repeatsOf_34 : decode cX4_repeatsOf 34 = .ok (.iaload, 1) := by decide +kernel
theorem dX4_repeatsOf_35 : decode cX4_repeatsOf 35 = .ok (.i2l, 1) := by decide +kernel
theorem dX4_repeatsOf_36 : decode cX4_repeatsOf 36 = .ok (.lreturn, 1) := by decide +kernel
theorem dX4_crowdOfAll_0 : decode cX4_crowdOfAll 0 = .ok (.lconst 0, 1) := by decide +kernel
theorem dX4_crowdOfAll_1 : decode cX4_crowdOfAll 1 = .ok (.lstore_n 1, 1) := by decide +kernel
theorem dX4_crowdOfAll_2 : decode cX4_crowdOfAll 2 = .ok (.iconst 0, 1) := by decide +kernel
theorem dX4_crowdOfAll_3 : decode cX4_crowdOfAll 3 = .ok (.istore_n 3, 1) := by decide +kernel
theorem dX4_crowdOfAll_4 : decode cX4_crowdOfAll 4 = .ok (.iload_n 3, 1) := by decide +kernel
theorem dX4_crowdOfAll_5 : decode cX4_crowdOfAll 5 = .ok (.aload_n 0, 1) := by decide +kernel
theorem dX4_crowdOfAll_6 : decode cX4_crowdOfAll 6 = .ok (.getfield 30, 3) := by decide +kernel
theorem dX4_crowdOfAll_9 : decode cX4_crowdOfAll 9 = .ok (.arraylength, 1) := by decide +kernel
theorem dX4_crowdOfAll_10 : decode cX4_crowdOfAll 10 = .ok (.if_icmp .ge 27, 3) := by decide +kernel
theorem dX4_crowdOfAll_13 : decode cX4_crowdOfAll 13 = .ok (.lload_n 1, 1) := by decide +kernel
theorem dX4_crowdOfAll_14 : decode cX4_crowdOfAll 14 = .ok (.aload_n 0, 1) := by decide +kernel
theorem dX4_crowdOfAll_15 : decode cX4_crowdOfAll 15 = .ok (.iload_n 3, 1) := by decide +kernel
theorem dX4_crowdOfAll_16 : decode cX4_crowdOfAll 16 = .ok (.invokevirtual 117, 3) := by decide +kernel
theorem dX4_crowdOfAll_19 : decode cX4_crowdOfAll 19 = .ok (.aload_n 0, 1) := by decide +kernel
theorem dX4_crowdOfAll_20 : decode cX4_crowdOfAll 20 = .ok (.getfield 30, 3) := by decide +kernel
theorem dX4_crowdOfAll_23 : decode cX4_crowdOfAll 23 = .ok (.iload_n 3, 1) := by decide +kernel
theorem dX4_crowdOfAll_24 : decode cX4_crowdOfAll 24 = .ok (.aaload, 1) := by decide +kernel
theorem dX4_crowdOfAll_25 : decode cX4_crowdOfAll 25 = .ok (.getfield 13, 3) := by decide +kernel
theorem dX4_crowdOfAll_28 : decode cX4_crowdOfAll 28 = .ok (.lmul, 1) := by decide +kernel
theorem dX4_crowdOfAll_29 : decode cX4_crowdOfAll 29 = .ok (.ladd, 1) := by decide +kernel
theorem dX4_crowdOfAll_30 : decode cX4_crowdOfAll 30 = .ok (.lstore_n 1, 1) := by decide +kernel
theorem dX4_crowdOfAll_31 : decode cX4_crowdOfAll 31 = .ok (.iinc 3 1, 3) := by decide +kernel
theorem dX4_crowdOfAll_34 : decode cX4_crowdOfAll 34 = .ok (.goto (-30), 3) := by decide +kernel
theorem dX4_crowdOfAll_37 : decode cX4_crowdOfAll 37 = .ok (.lload_n 1, 1) := by decide +kernel
theorem dX4_crowdOfAll_38 : decode cX4_crowdOfAll 38 = .ok (.lreturn, 1) := by decide +kernel
theorem dX4_workOfAll_0 : decode cX4_workOfAll 0 = .ok (.lconst 0, 1) := by decide +kernel
theorem dX4_workOfAll_1 : decode cX4_workOfAll 1 = .ok (.lstore_n 1, 1) := by decide +kernel
theorem dX4_workOfAll_2 : decode cX4_workOfAll 2 = .ok (.iconst 0, 1) := by decide +kernel
theorem dX4_workOfAll_3 : decode cX4_workOfAll 3 = .ok (.istore_n 3, 1) := by decide +kernel
theorem dX4_workOfAll_4 : decode cX4_workOfAll 4 = .ok (.iload_n 3, 1) := by decide +kernel
theorem dX4_workOfAll_5 : decode cX4_workOfAll 5 = .ok (.aload_n 0, 1) := by decide +kernel
theorem dX4_workOfAll_6 : decode cX4_workOfAll 6 = .ok (.getfield 30, 3) := by decide +kernel
theorem dX4_workOfAll_9 : decode cX4_workOfAll 9 = .ok (.arraylength, 1) := by decide +kernel
theorem dX4_workOfAll_10 : decode cX4_workOfAll 10 = .ok (.if_icmp .ge 27, 3) := by decide +kernel
theorem dX4_workOfAll_13 : decode cX4_workOfAll 13 = .ok (.lload_n 1, 1) := by decide +kernel
theorem dX4_workOfAll_14 : decode cX4_workOfAll 14 = .ok (.aload_n 0, 1) := by decide +kernel
theorem dX4_workOfAll_15 : decode cX4_workOfAll 15 = .ok (.iload_n 3, 1) := by decide +kernel
theorem dX4_workOfAll_16 : decode cX4_workOfAll 16 = .ok (.invokevirtual 117, 3) := by decide +kernel
theorem dX4_workOfAll_19 : decode cX4_workOfAll 19 = .ok (.aload_n 0, 1) := by decide +kernel
theorem dX4_workOfAll_20 : decode cX4_workOfAll 20 = .ok (.getfield 30, 3) := by decide +kernel
theorem dX4_workOfAll_23 : decode cX4_workOfAll 23 = .ok (.iload_n 3, 1) := by decide +kernel
theorem dX4_workOfAll_24 : decode cX4_workOfAll 24 = .ok (.aaload, 1) := by decide +kernel
theorem dX4_workOfAll_25 : decode cX4_workOfAll 25 = .ok (.getfield 19, 3) := by decide +kernel
theorem dX4_workOfAll_28 : decode cX4_workOfAll 28 = .ok (.lmul, 1) := by decide +kernel
theorem dX4_workOfAll_29 : decode cX4_workOfAll 29 = .ok (.ladd, 1) := by decide +kernel
theorem dX4_workOfAll_30 : decode cX4_workOfAll 30 = .ok (.lstore_n 1, 1) := by decide +kernel
theorem dX4_workOfAll_31 : decode cX4_workOfAll 31 = .ok (.iinc 3 1, 3) := by decide +kernel
theorem dX4_workOfAll_34 : decode cX4_workOfAll 34 = .ok (.goto (-30), 3) := by decide +kernel
theorem dX4_workOfAll_37 : decode cX4_workOfAll 37 = .ok (.lload_n 1, 1) := by decide +kernel
theorem dX4_workOfAll_38 : decode cX4_workOfAll 38 = .ok (.lreturn, 1) := by decide +kernel
theorem dX4_mostCrowd_0 : decode cX4_mostCrowd 0 = .ok (.lconst 0, 1) := by decide +kernel
theorem dX4_mostCrowd_1 : decode cX4_mostCrowd 1 = .ok (.lstore_n 1, 1) := by decide +kernel
theorem dX4_mostCrowd_2 : decode cX4_mostCrowd 2 = .ok (.iconst 0, 1) := by decide +kernel
theorem dX4_mostCrowd_3 : decode cX4_mostCrowd 3 = .ok (.istore_n 3, 1) := by decide +kernel
theorem dX4_mostCrowd_4 : decode cX4_mostCrowd 4 = .ok (.iload_n 3, 1) := by decide +kernel
theorem dX4_mostCrowd_5 : decode cX4_mostCrowd 5 = .ok (.aload_n 0, 1) := by decide +kernel
theorem dX4_mostCrowd_6 : decode cX4_mostCrowd 6 = .ok (.getfield 30, 3) := by decide +kernel
theorem dX4_mostCrowd_9 : decode cX4_mostCrowd 9 = .ok (.arraylength, 1) := by decide +kernel
theorem dX4_mostCrowd_10 : decode cX4_mostCrowd 10 = .ok (.if_icmp .ge 23, 3) := by decide +kernel
theorem dX4_mostCrowd_13 : decode cX4_mostCrowd 13 = .ok (.lload_n 1, 1) := by decide +kernel
theorem dX4_mostCrowd_14 : decode cX4_mostCrowd 14 = .ok (.aload_n 0, 1) := by decide +kernel
theorem dX4_mostCrowd_15 : decode cX4_mostCrowd 15 = .ok (.getfield 30, 3) := by decide +kernel
theorem dX4_mostCrowd_18 : decode cX4_mostCrowd 18 = .ok (.iload_n 3, 1) := by decide +kernel
theorem dX4_mostCrowd_19 : decode cX4_mostCrowd 19 = .ok (.aaload, 1) := by decide +kernel
theorem dX4_mostCrowd_20 : decode cX4_mostCrowd 20 = .ok (.getfield 13, 3) := by decide +kernel
theorem dX4_mostCrowd_23 : decode cX4_mostCrowd 23 = .ok (.invokestatic 121, 3) := by decide +kernel
theorem dX4_mostCrowd_26 : decode cX4_mostCrowd 26 = .ok (.lstore_n 1, 1) := by decide +kernel
theorem dX4_mostCrowd_27 : decode cX4_mostCrowd 27 = .ok (.iinc 3 1, 3) := by decide +kernel
theorem dX4_mostCrowd_30 : decode cX4_mostCrowd 30 = .ok (.goto (-26), 3) := by decide +kernel
theorem dX4_mostCrowd_33 : decode cX4_mostCrowd 33 = .ok (.lload_n 1, 1) := by decide +kernel
theorem dX4_mostCrowd_34 : decode cX4_mostCrowd 34 = .ok (.lreturn, 1) := by decide +kernel
theorem dX4_mostReach_0 : decode cX4_mostReach 0 = .ok (.lconst 0, 1) := by decide +kernel
theorem dX4_mostReach_1 : decode cX4_mostReach 1 = .ok (.lstore_n 1, 1) := by decide +kernel
theorem dX4_mostReach_2 : decode cX4_mostReach 2 = .ok (.iconst 0, 1) := by decide +kernel
theorem dX4_mostReach_3 : decode cX4_mostReach 3 = .ok (.istore_n 3, 1) := by decide +kernel
theorem dX4_mostReach_4 : decode cX4_mostReach 4 = .ok (.iload_n 3, 1) := by decide +kernel
theorem dX4_mostReach_5 : decode cX4_mostReach 5 = .ok (.aload_n 0, 1) := by decide +kernel
theorem dX4_mostReach_6 : decode cX4_mostReach 6 = .ok (.getfield 30, 3) := by decide +kernel
theorem dX4_mostReach_9 : decode cX4_mostReach 9 = .ok (.arraylength, 1) := by decide +kernel
theorem dX4_mostReach_10 : decode cX4_mostReach 10 = .ok (.if_icmp .ge 23, 3) := by decide +kernel
theorem dX4_mostReach_13 : decode cX4_mostReach 13 = .ok (.lload_n 1, 1) := by decide +kernel
theorem dX4_mostReach_14 : decode cX4_mostReach 14 = .ok (.aload_n 0, 1) := by decide +kernel
theorem dX4_mostReach_15 : decode cX4_mostReach 15 = .ok (.getfield 30, 3) := by decide +kernel
theorem dX4_mostReach_18 : decode cX4_mostReach 18 = .ok (.iload_n 3, 1) := by decide +kernel
theorem dX4_mostReach_19 : decode cX4_mostReach 19 = .ok (.aaload, 1) := by decide +kernel
theorem dX4_mostReach_20 : decode cX4_mostReach 20 = .ok (.getfield 16, 3) := by decide +kernel
theorem dX4_mostReach_23 : decode cX4_mostReach 23 = .ok (.invokestatic 121, 3) := by decide +kernel
theorem dX4_mostReach_26 : decode cX4_mostReach 26 = .ok (.lstore_n 1, 1) := by decide +kernel
theorem dX4_mostReach_27 : decode cX4_mostReach 27 = .ok (.iinc 3 1, 3) := by decide +kernel
theorem dX4_mostReach_30 : decode cX4_mostReach 30 = .ok (.goto (-26), 3) := by decide +kernel
theorem dX4_mostReach_33 : decode cX4_mostReach 33 = .ok (.lload_n 1, 1) := by decide +kernel
theorem dX4_mostReach_34 : decode cX4_mostReach 34 = .ok (.lreturn, 1) := by decide +kernel
theorem dX4_mostWork_0 : decode cX4_mostWork 0 = .ok (.lconst 0, 1) := by decide +kernel
theorem dX4_mostWork_1 : decode cX4_mostWork 1 = .ok (.lstore_n 1, 1) := by decide +kernel
theorem dX4_mostWork_2 : decode cX4_mostWork 2 = .ok (.iconst 0, 1) := by decide +kernel
theorem dX4_mostWork_3 : decode cX4_mostWork 3 = .ok (.istore_n 3, 1) := by decide +kernel
theorem dX4_mostWork_4 : decode cX4_mostWork 4 = .ok (.iload_n 3, 1) := by decide +kernel
theorem dX4_mostWork_5 : decode cX4_mostWork 5 = .ok (.aload_n 0, 1) := by decide +kernel
theorem dX4_mostWork_6 : decode cX4_mostWork 6 = .ok (.getfield 30, 3) := by decide +kernel
theorem dX4_mostWork_9 : decode cX4_mostWork 9 = .ok (.arraylength, 1) := by decide +kernel
theorem dX4_mostWork_10 : decode cX4_mostWork 10 = .ok (.if_icmp .ge 23, 3) := by decide +kernel
theorem dX4_mostWork_13 : decode cX4_mostWork 13 = .ok (.lload_n 1, 1) := by decide +kernel
theorem dX4_mostWork_14 : decode cX4_mostWork 14 = .ok (.aload_n 0, 1) := by decide +kernel
theorem dX4_mostWork_15 : decode cX4_mostWork 15 = .ok (.getfield 30, 3) := by decide +kernel
theorem dX4_mostWork_18 : decode cX4_mostWork 18 = .ok (.iload_n 3, 1) := by decide +kernel
theorem dX4_mostWork_19 : decode cX4_mostWork 19 = .ok (.aaload, 1) := by decide +kernel
theorem dX4_mostWork_20 : decode cX4_mostWork 20 = .ok (.getfield 19, 3) := by decide +kernel
theorem dX4_mostWork_23 : decode cX4_mostWork 23 = .ok (.invokestatic 121, 3) := by decide +kernel
theorem dX4_mostWork_26 : decode cX4_mostWork 26 = .ok (.lstore_n 1, 1) := by decide +kernel
theorem dX4_mostWork_27 : decode cX4_mostWork 27 = .ok (.iinc 3 1, 3) := by decide +kernel
theorem dX4_mostWork_30 : decode cX4_mostWork 30 = .ok (.goto (-26), 3) := by decide +kernel
theorem dX4_mostWork_33 : decode cX4_mostWork 33 = .ok (.lload_n 1, 1) := by decide +kernel
theorem dX4_mostWork_34 : decode cX4_mostWork 34 = .ok (.lreturn, 1) := by decide +kernel
theorem dX5_init_0 : decode cX5_init 0 = .ok (.aload_n 0, 1) := by decide +kernel
theorem dX5_init_1 : decode cX5_init 1 = .ok (.invokespecial 1, 3) := by decide +kernel
theorem dX5_init_4 : decode cX5_init 4 = .ok (.aload_n 0, 1) := by decide +kernel
theorem dX5_init_5 : decode cX5_init 5 = .ok (.iconst 0, 1) := by decide +kernel
theorem dX5_init_6 : decode cX5_init 6 = .ok (.putfield 7, 3) := by decide +kernel
theorem dX5_init_9 : decode cX5_init 9 = .ok (.aload_n 0, 1) := by decide +kernel
theorem dX5_init_10 : decode cX5_init 10 = .ok (.iconst 0, 1) := by decide +kernel
theorem dX5_init_11 : decode cX5_init 11 = .ok (.putfield 13, 3) := by decide +kernel
theorem dX5_init_14 : decode cX5_init 14 = .ok (.aload_n 0, 1) := by decide +kernel
theorem dX5_init_15 : decode cX5_init 15 = .ok (.iconst 0, 1) := by decide +kernel
theorem dX5_init_16 : decode cX5_init 16 = .ok (.putfield 16, 3) := by decide +kernel
theorem dX5_init_19 : decode cX5_init 19 = .ok (.aload_n 0, 1) := by decide +kernel
theorem dX5_init_20 : decode cX5_init 20 = .ok (.iconst 0, 1) := by decide +kernel
theorem dX5_init_21 : decode cX5_init 21 = .ok (.putfield 19, 3) := by decide +kernel
theorem dX5_init_24 : decode cX5_init 24 = .ok (.aload_n 0, 1) := by decide +kernel
theorem dX5_init_25 : decode cX5_init 25 = .ok (.aconst_null, 1) := by decide +kernel
theorem dX5_init_26 : decode cX5_init 26 = .ok (.putfield 22, 3) := by decide +kernel
theorem dX5_init_29 : decode cX5_init 29 = .ok (.aload_n 0, 1) := by decide +kernel
theorem dX5_init_30 : decode cX5_init 30 = .ok (.aconst_null, 1) := by decide +kernel
theorem dX5_init_31 : decode cX5_init 31 = .ok (.putfield 26, 3) := by decide +kernel
theorem dX5_init_34 : decode cX5_init 34 = .ok (.aload_n 0, 1) := by decide +kernel
theorem dX5_init_35 : decode cX5_init 35 = .ok (.aconst_null, 1) := by decide +kernel
theorem dX5_init_36 : decode cX5_init 36 = .ok (.putfield 29, 3) := by decide +kernel
theorem dX5_init_39 : decode cX5_init 39 = .ok (.aload_n 0, 1) := by decide +kernel
theorem dX5_init_40 : decode cX5_init 40 = .ok (.iconst 3, 1) := by decide +kernel
theorem dX5_init_41 : decode cX5_init 41 = .ok (.newarray .int, 2) := by decide +kernel
theorem dX5_init_43 : decode cX5_init 43 = .ok (.putfield 33, 3) := by decide +kernel
theorem dX5_init_46 : decode cX5_init 46 = .ok (.aload_n 0, 1) := by decide +kernel
theorem dX5_init_47 : decode cX5_init 47 = .ok (.iconst 0, 1) := by decide +kernel
theorem dX5_init_48 : decode cX5_init 48 = .ok (.putfield 37, 3) := by decide +kernel
theorem dX5_init_51 : decode cX5_init 51 = .ok (.aload_n 0, 1) := by decide +kernel
theorem dX5_init_52 : decode cX5_init 52 = .ok (.iload_n 1, 1) := by decide +kernel
theorem dX5_init_53 : decode cX5_init 53 = .ok (.putfield 40, 3) := by decide +kernel
theorem dX5_init_56 : decode cX5_init 56 = .ok (.aload_n 0, 1) := by decide +kernel
theorem dX5_init_57 : decode cX5_init 57 = .ok (.iload_n 2, 1) := by decide +kernel
theorem dX5_init_58 : decode cX5_init 58 = .ok (.putfield 43, 3) := by decide +kernel
theorem dX5_init_61 : decode cX5_init 61 = .ok (.return_, 1) := by decide +kernel
theorem dX5_give_0 : decode cX5_give 0 = .ok (.aload_n 0, 1) := by decide +kernel
theorem dX5_give_1 : decode cX5_give 1 = .ok (.getfield 37, 3) := by decide +kernel
theorem dX5_give_4 : decode cX5_give 4 = .ok (.iconst 3, 1) := by decide +kernel
theorem dX5_give_5 : decode cX5_give 5 = .ok (.if_icmp .ge 23, 3) := by decide +kernel
theorem dX5_give_8 : decode cX5_give 8 = .ok (.aload_n 0, 1) := by decide +kernel
theorem dX5_give_9 : decode cX5_give 9 = .ok (.getfield 33, 3) := by decide +kernel
theorem dX5_give_12 : decode cX5_give 12 = .ok (.aload_n 0, 1) := by decide +kernel
theorem dX5_give_13 : decode cX5_give 13 = .ok (.getfield 37, 3) := by decide +kernel
theorem dX5_give_16 : decode cX5_give 16 = .ok (.iload_n 1, 1) := by decide +kernel
theorem dX5_give_17 : decode cX5_give 17 = .ok (.iastore, 1) := by decide +kernel
theorem dX5_give_18 : decode cX5_give 18 = .ok (.aload_n 0, 1) := by decide +kernel
theorem dX5_give_19 : decode cX5_give 19 = .ok (.dup, 1) := by decide +kernel
theorem dX5_give_20 : decode cX5_give 20 = .ok (.getfield 37, 3) := by decide +kernel
theorem dX5_give_23 : decode cX5_give 23 = .ok (.iconst 1, 1) := by decide +kernel
theorem dX5_give_24 : decode cX5_give 24 = .ok (.iadd, 1) := by decide +kernel
theorem dX5_give_25 : decode cX5_give 25 = .ok (.putfield 37, 3) := by decide +kernel
theorem dX5_give_28 : decode cX5_give 28 = .ok (.return_, 1) := by decide +kernel
theorem dX5_applyAll_0 : decode cX5_applyAll 0 = .ok (.iload_n 2, 1) := by decide +kernel
theorem dX5_applyAll_1 : decode cX5_applyAll 1 = .ok (.istore_n 3, 1) := by decide +kernel
theorem dX5_applyAll_2 : decode cX5_applyAll 2 = .ok (.aload_n 0, 1) := by decide +kernel
theorem dX5_applyAll_3 : decode cX5_applyAll 3 = .ok (.astore 4, 2) := by decide +kernel
theorem dX5_applyAll_5 : decode cX5_applyAll 5 = .ok (.iconst 0, 1) := by decide +kernel
theorem dX5_applyAll_6 : decode cX5_applyAll 6 = .ok (.istore 5, 2) := by decide +kernel
theorem dX5_applyAll_8 : decode cX5_applyAll 8 = .ok (.iload 5, 2) := by decide +kernel
theorem dX5_applyAll_10 : decode cX5_applyAll 10 = .ok (.sipush 2000, 3) := by decide +kernel
theorem dX5_applyAll_13 : decode cX5_applyAll 13 = .ok (.if_icmp .ge 29, 3) := by decide +kernel
theorem dX5_applyAll_16 : decode cX5_applyAll 16 = .ok (.aload 4, 2) := by decide +kernel
theorem dX5_applyAll_18 : decode cX5_applyAll 18 = .ok (.ifnull 24, 3) := by decide +kernel
theorem dX5_applyAll_21 : decode cX5_applyAll 21 = .ok (.aload 4, 2) := by decide +kernel
theorem dX5_applyAll_23 : decode cX5_applyAll 23 = .ok (.aload_n 1, 1) := by decide +kernel
theorem dX5_applyAll_24 : decode cX5_applyAll 24 = .ok (.iload_n 3, 1) := by decide +kernel
theorem dX5_applyAll_25 : decode cX5_applyAll 25 = .ok (.invokevirtual 46, 3) := by decide +kernel
theorem dX5_applyAll_28 : decode cX5_applyAll 28 = .ok (.istore_n 3, 1) := by decide +kernel
theorem dX5_applyAll_29 : decode cX5_applyAll 29 = .ok (.aload 4, 2) := by decide +kernel
theorem dX5_applyAll_31 : decode cX5_applyAll 31 = .ok (.getfield 26, 3) := by decide +kernel
theorem dX5_applyAll_34 : decode cX5_applyAll 34 = .ok (.astore 4, 2) := by decide +kernel
theorem dX5_applyAll_36 : decode cX5_applyAll 36 = .ok (.iinc 5 1, 3) := by decide +kernel
theorem dX5_applyAll_39 : decode cX5_applyAll 39 = .ok (.goto (-31), 3) := by decide +kernel
theorem dX5_applyAll_42 : decode cX5_applyAll 42 = .ok (.iload_n 3, 1) := by decide +kernel
theorem dX5_applyAll_43 : decode cX5_applyAll 43 = .ok (.ireturn, 1) := by decide +kernel
theorem dX5_apply_0 : decode cX5_apply 0 = .ok (.aload_n 0, 1) := by decide +kernel
theorem dX5_apply_1 : decode cX5_apply 1 = .ok (.getfield 40, 3) := by decide +kernel
theorem dX5_apply_4 : decode cX5_apply 4 = .ok (.tableswitch 526 0 23 #[112, 142, 172, 202, 233, 526, 526, 526, 526, 255, 282, 526, 526, 309, 390, 421, 336, 363, 526, 526, 488, 452, 503, 516], 112) := by decide +kernel
theorem dX5_apply_116 : decode cX5_apply 116 = .ok (.aload_n 1, 1) := by decide +kernel
theorem dX5_apply_117 : decode cX5_apply 117 = .ok (.new 50, 3) := by decide +kernel
theorem dX5_apply_120 : decode cX5_apply 120 = .ok (.dup, 1) := by decide +kernel
theorem dX5_apply_121 : decode cX5_apply 121 = .ok (.bipush 9, 2) := by decide +kernel
theorem dX5_apply_123 : decode cX5_apply 123 = .ok (.aload_n 0, 1) := by decide +kernel
theorem dX5_apply_124 : decode cX5_apply 124 = .ok (.getfield 43, 3) := by decide +kernel
theorem dX5_apply_127 : decode cX5_apply 127 = .ok (.aload_n 0, 1) := by decide +kernel
theorem dX5_apply_128 : decode cX5_apply 128 = .ok (.getfield 7, 3) := by decide +kernel
theorem dX5_apply_131 : decode cX5_apply 131 = .ok (.aload_n 0, 1) := by decide +kernel
theorem dX5_apply_132 : decode cX5_apply 132 = .ok (.getfield 13, 3) := by decide +kernel
theorem dX5_apply_135 : decode cX5_apply 135 = .ok (.invokespecial 52, 3) := by decide +kernel
theorem dX5_apply_138 : decode cX5_apply 138 = .ok (.iload_n 2, 1) := by decide +kernel
theorem dX5_apply_139 : decode cX5_apply 139 = .ok (.invokevirtual 55, 3) := by decide +kernel
theorem dX5_apply_142 : decode cX5_apply 142 = .ok (.invokevirtual 59, 3) := by decide +kernel
theorem dX5_apply_145 : decode cX5_apply 145 = .ok (.ireturn, 1) := by decide +kernel
theorem dX5_apply_146 : decode cX5_apply 146 = .ok (.aload_n 1, 1) := by decide +kernel
theorem dX5_apply_147 : decode cX5_apply 147 = .ok (.new 50, 3) := by decide +kernel
theorem dX5_apply_150 : decode cX5_apply 150 = .ok (.dup, 1) := by decide +kernel
theorem dX5_apply_151 : decode cX5_apply 151 = .ok (.bipush 9, 2) := by decide +kernel
theorem dX5_apply_153 : decode cX5_apply 153 = .ok (.aload_n 0, 1) := by decide +kernel
theorem dX5_apply_154 : decode cX5_apply 154 = .ok (.getfield 43, 3) := by decide +kernel
theorem dX5_apply_157 : decode cX5_apply 157 = .ok (.aload_n 0, 1) := by decide +kernel
theorem dX5_apply_158 : decode cX5_apply 158 = .ok (.getfield 13, 3) := by decide +kernel
theorem dX5_apply_161 : decode cX5_apply 161 = .ok (.aload_n 0, 1) := by decide +kernel
theorem dX5_apply_162 : decode cX5_apply 162 = .ok (.getfield 7, 3) := by decide +kernel
theorem dX5_apply_165 : decode cX5_apply 165 = .ok (.invokespecial 52, 3) := by decide +kernel
theorem dX5_apply_168 : decode cX5_apply 168 = .ok (.iload_n 2, 1) := by decide +kernel
theorem dX5_apply_169 : decode cX5_apply 169 = .ok (.invokevirtual 55, 3) := by decide +kernel
theorem dX5_apply_172 : decode cX5_apply 172 = .ok (.invokevirtual 59, 3) := by decide +kernel
theorem dX5_apply_175 : decode cX5_apply 175 = .ok (.ireturn, 1) := by decide +kernel
theorem dX5_apply_176 : decode cX5_apply 176 = .ok (.aload_n 1, 1) := by decide +kernel
theorem dX5_apply_177 : decode cX5_apply 177 = .ok (.new 50, 3) := by decide +kernel
theorem dX5_apply_180 : decode cX5_apply 180 = .ok (.dup, 1) := by decide +kernel
theorem dX5_apply_181 : decode cX5_apply 181 = .ok (.bipush 10, 2) := by decide +kernel
theorem dX5_apply_183 : decode cX5_apply 183 = .ok (.aload_n 0, 1) := by decide +kernel
theorem dX5_apply_184 : decode cX5_apply 184 = .ok (.getfield 43, 3) := by decide +kernel
theorem dX5_apply_187 : decode cX5_apply 187 = .ok (.aload_n 0, 1) := by decide +kernel
theorem dX5_apply_188 : decode cX5_apply 188 = .ok (.getfield 7, 3) := by decide +kernel
theorem dX5_apply_191 : decode cX5_apply 191 = .ok (.aload_n 0, 1) := by decide +kernel
theorem dX5_apply_192 : decode cX5_apply 192 = .ok (.getfield 13, 3) := by decide +kernel
theorem dX5_apply_195 : decode cX5_apply 195 = .ok (.invokespecial 52, 3) := by decide +kernel
theorem dX5_apply_198 : decode cX5_apply 198 = .ok (.iload_n 2, 1) := by decide +kernel
theorem dX5_apply_199 : decode cX5_apply 199 = .ok (.invokevirtual 55, 3) := by decide +kernel
theorem dX5_apply_202 : decode cX5_apply 202 = .ok (.invokevirtual 59, 3) := by decide +kernel
theorem dX5_apply_205 : decode cX5_apply 205 = .ok (.ireturn, 1) := by decide +kernel
theorem dX5_apply_206 : decode cX5_apply 206 = .ok (.aload_n 1, 1) := by decide +kernel
theorem dX5_apply_207 : decode cX5_apply 207 = .ok (.new 50, 3) := by decide +kernel
theorem dX5_apply_210 : decode cX5_apply 210 = .ok (.dup, 1) := by decide +kernel
theorem dX5_apply_211 : decode cX5_apply 211 = .ok (.bipush 10, 2) := by decide +kernel
theorem dX5_apply_213 : decode cX5_apply 213 = .ok (.aload_n 0, 1) := by decide +kernel
theorem dX5_apply_214 : decode cX5_apply 214 = .ok (.getfield 43, 3) := by decide +kernel
theorem dX5_apply_217 : decode cX5_apply 217 = .ok (.aload_n 0, 1) := by decide +kernel
theorem dX5_apply_218 : decode cX5_apply 218 = .ok (.getfield 7, 3) := by decide +kernel
theorem dX5_apply_221 : decode cX5_apply 221 = .ok (.ineg, 1) := by decide +kernel
theorem dX5_apply_222 : decode cX5_apply 222 = .ok (.aload_n 0, 1) := by decide +kernel
theorem dX5_apply_223 : decode cX5_apply 223 = .ok (.getfield 13, 3) := by decide +kernel
theorem dX5_apply_226 : decode cX5_apply 226 = .ok (.invokespecial 52, 3) := by decide +kernel
theorem dX5_apply_229 : decode cX5_apply 229 = .ok (.iload_n 2, 1) := by decide +kernel
theorem dX5_apply_230 : decode cX5_apply 230 = .ok (.invokevirtual 55, 3) := by decide +kernel
theorem dX5_apply_233 : decode cX5_apply 233 = .ok (.invokevirtual 59, 3) := by decide +kernel
theorem dX5_apply_236 : decode cX5_apply 236 = .ok (.ireturn, 1) := by decide +kernel
theorem dX5_apply_237 : decode cX5_apply 237 = .ok (.aload_n 1, 1) := by decide +kernel
theorem dX5_apply_238 : decode cX5_apply 238 = .ok (.new 50, 3) := by decide +kernel
theorem dX5_apply_241 : decode cX5_apply 241 = .ok (.dup, 1) := by decide +kernel
theorem dX5_apply_242 : decode cX5_apply 242 = .ok (.bipush 11, 2) := by decide +kernel
theorem dX5_apply_244 : decode cX5_apply 244 = .ok (.aload_n 0, 1) := by decide +kernel
theorem dX5_apply_245 : decode cX5_apply 245 = .ok (.getfield 43, 3) := by decide +kernel
theorem dX5_apply_248 : decode cX5_apply 248 = .ok (.invokespecial 65, 3) := by decide +kernel
theorem dX5_apply_251 : decode cX5_apply 251 = .ok (.iload_n 2, 1) := by decide +kernel
theorem dX5_apply_252 : decode cX5_apply 252 = .ok (.invokevirtual 55, 3) := by decide +kernel
theorem dX5_apply_255 : decode cX5_apply 255 = .ok (.invokevirtual 59, 3) := by decide +kernel
theorem dX5_apply_258 : decode cX5_apply 258 = .ok (.ireturn, 1) := by decide +kernel
theorem dX5_apply_259 : decode cX5_apply 259 = .ok (.aload_n 1, 1) := by decide +kernel
theorem dX5_apply_260 : decode cX5_apply 260 = .ok (.new 50, 3) := by decide +kernel
theorem dX5_apply_263 : decode cX5_apply 263 = .ok (.dup, 1) := by decide +kernel
theorem dX5_apply_264 : decode cX5_apply 264 = .ok (.bipush 14, 2) := by decide +kernel
theorem dX5_apply_266 : decode cX5_apply 266 = .ok (.aload_n 0, 1) := by decide +kernel
theorem dX5_apply_267 : decode cX5_apply 267 = .ok (.getfield 43, 3) := by decide +kernel
theorem dX5_apply_270 : decode cX5_apply 270 = .ok (.aload_n 0, 1) := by decide +kernel
theorem dX5_apply_271 : decode cX5_apply 271 = .ok (.getfield 7, 3) := by decide +kernel
theorem dX5_apply_274 : decode cX5_apply 274 = .ok (.iconst 0, 1) := by decide +kernel
theorem dX5_apply_275 : decode cX5_apply 275 = .ok (.invokespecial 52, 3) := by decide +kernel
theorem dX5_apply_278 : decode cX5_apply 278 = .ok (.iload_n 2, 1) := by decide +kernel
theorem dX5_apply_279 : decode cX5_apply 279 = .ok (.invokevirtual 55, 3) := by decide +kernel
theorem dX5_apply_282 : decode cX5_apply 282 = .ok (.invokevirtual 59, 3) := by decide +kernel
theorem dX5_apply_285 : decode cX5_apply 285 = .ok (.ireturn, 1) := by decide +kernel
theorem dX5_apply_286 : decode cX5_apply 286 = .ok (.aload_n 1, 1) := by decide +kernel
theorem dX5_apply_287 : decode cX5_apply 287 = .ok (.new 50, 3) := by decide +kernel
theorem dX5_apply_290 : decode cX5_apply 290 = .ok (.dup, 1) := by decide +kernel
theorem dX5_apply_291 : decode cX5_apply 291 = .ok (.bipush 15, 2) := by decide +kernel
theorem dX5_apply_293 : decode cX5_apply 293 = .ok (.aload_n 0, 1) := by decide +kernel
theorem dX5_apply_294 : decode cX5_apply 294 = .ok (.getfield 43, 3) := by decide +kernel
theorem dX5_apply_297 : decode cX5_apply 297 = .ok (.aload_n 0, 1) := by decide +kernel
theorem dX5_apply_298 : decode cX5_apply 298 = .ok (.getfield 7, 3) := by decide +kernel
theorem dX5_apply_301 : decode cX5_apply 301 = .ok (.iconst 0, 1) := by decide +kernel
theorem dX5_apply_302 : decode cX5_apply 302 = .ok (.invokespecial 52, 3) := by decide +kernel
theorem dX5_apply_305 : decode cX5_apply 305 = .ok (.iload_n 2, 1) := by decide +kernel
theorem dX5_apply_306 : decode cX5_apply 306 = .ok (.invokevirtual 55, 3) := by decide +kernel
theorem dX5_apply_309 : decode cX5_apply 309 = .ok (.invokevirtual 59, 3) := by decide +kernel
theorem dX5_apply_312 : decode cX5_apply 312 = .ok (.ireturn, 1) := by decide +kernel
theorem dX5_apply_313 : decode cX5_apply 313 = .ok (.aload_n 1, 1) := by decide +kernel
theorem dX5_apply_314 : decode cX5_apply 314 = .ok (.new 50, 3) := by decide +kernel
theorem dX5_apply_317 : decode cX5_apply 317 = .ok (.dup, 1) := by decide +kernel
theorem dX5_apply_318 : decode cX5_apply 318 = .ok (.bipush 18, 2) := by decide +kernel
theorem dX5_apply_320 : decode cX5_apply 320 = .ok (.aload_n 0, 1) := by decide +kernel
theorem dX5_apply_321 : decode cX5_apply 321 = .ok (.getfield 43, 3) := by decide +kernel
theorem dX5_apply_324 : decode cX5_apply 324 = .ok (.aload_n 0, 1) := by decide +kernel
theorem dX5_apply_325 : decode cX5_apply 325 = .ok (.getfield 7, 3) := by decide +kernel
theorem dX5_apply_328 : decode cX5_apply 328 = .ok (.iconst 0, 1) := by decide +kernel
theorem dX5_apply_329 : decode cX5_apply 329 = .ok (.invokespecial 52, 3) := by decide +kernel
theorem dX5_apply_332 : decode cX5_apply 332 = .ok (.iload_n 2, 1) := by decide +kernel
theorem dX5_apply_333 : decode cX5_apply 333 = .ok (.invokevirtual 55, 3) := by decide +kernel
theorem dX5_apply_336 : decode cX5_apply 336 = .ok (.invokevirtual 59, 3) := by decide +kernel
theorem dX5_apply_339 : decode cX5_apply 339 = .ok (.ireturn, 1) := by decide +kernel
theorem dX5_apply_340 : decode cX5_apply 340 = .ok (.aload_n 1, 1) := by decide +kernel
theorem dX5_apply_341 : decode cX5_apply 341 = .ok (.new 50, 3) := by decide +kernel
theorem dX5_apply_344 : decode cX5_apply 344 = .ok (.dup, 1) := by decide +kernel
theorem dX5_apply_345 : decode cX5_apply 345 = .ok (.bipush 22, 2) := by decide +kernel
theorem dX5_apply_347 : decode cX5_apply 347 = .ok (.aload_n 0, 1) := by decide +kernel
theorem dX5_apply_348 : decode cX5_apply 348 = .ok (.getfield 43, 3) := by decide +kernel
theorem dX5_apply_351 : decode cX5_apply 351 = .ok (.aload_n 0, 1) := by decide +kernel
theorem dX5_apply_352 : decode cX5_apply 352 = .ok (.getfield 7, 3) := by decide +kernel
theorem dX5_apply_355 : decode cX5_apply 355 = .ok (.iconst 0, 1) := by decide +kernel
theorem dX5_apply_356 : decode cX5_apply 356 = .ok (.invokespecial 52, 3) := by decide +kernel
theorem dX5_apply_359 : decode cX5_apply 359 = .ok (.iload_n 2, 1) := by decide +kernel
theorem dX5_apply_360 : decode cX5_apply 360 = .ok (.invokevirtual 55, 3) := by decide +kernel
theorem dX5_apply_363 : decode cX5_apply 363 = .ok (.invokevirtual 59, 3) := by decide +kernel
theorem dX5_apply_366 : decode cX5_apply 366 = .ok (.ireturn, 1) := by decide +kernel
theorem dX5_apply_367 : decode cX5_apply 367 = .ok (.aload_n 1, 1) := by decide +kernel
theorem dX5_apply_368 : decode cX5_apply 368 = .ok (.new 50, 3) := by decide +kernel
theorem dX5_apply_371 : decode cX5_apply 371 = .ok (.dup, 1) := by decide +kernel
theorem dX5_apply_372 : decode cX5_apply 372 = .ok (.bipush 23, 2) := by decide +kernel
theorem dX5_apply_374 : decode cX5_apply 374 = .ok (.aload_n 0, 1) := by decide +kernel
theorem dX5_apply_375 : decode cX5_apply 375 = .ok (.getfield 43, 3) := by decide +kernel
theorem dX5_apply_378 : decode cX5_apply 378 = .ok (.aload_n 0, 1) := by decide +kernel
theorem dX5_apply_379 : decode cX5_apply 379 = .ok (.getfield 7, 3) := by decide +kernel
theorem dX5_apply_382 : decode cX5_apply 382 = .ok (.iconst 0, 1) := by decide +kernel
theorem dX5_apply_383 : decode cX5_apply 383 = .ok (.invokespecial 52, 3) := by decide +kernel
theorem dX5_apply_386 : decode cX5_apply 386 = .ok (.iload_n 2, 1) := by decide +kernel
theorem dX5_apply_387 : decode cX5_apply 387 = .ok (.invokevirtual 55, 3) := by decide +kernel
theorem dX5_apply_390 : decode cX5_apply 390 = .ok (.invokevirtual 59, 3) := by decide +kernel
theorem dX5_apply_393 : decode cX5_apply 393 = .ok (.ireturn, 1) := by decide +kernel
theorem dX5_apply_394 : decode cX5_apply 394 = .ok (.aload_n 1, 1) := by decide +kernel
theorem dX5_apply_395 : decode cX5_apply 395 = .ok (.new 50, 3) := by decide +kernel
theorem dX5_apply_398 : decode cX5_apply 398 = .ok (.dup, 1) := by decide +kernel
theorem dX5_apply_399 : decode cX5_apply 399 = .ok (.bipush 19, 2) := by decide +kernel
theorem dX5_apply_401 : decode cX5_apply 401 = .ok (.aload_n 0, 1) := by decide +kernel
theorem dX5_apply_402 : decode cX5_apply 402 = .ok (.getfield 43, 3) := by decide +kernel
theorem dX5_apply_405 : decode cX5_apply 405 = .ok (.invokespecial 65, 3) := by decide +kernel
theorem dX5_apply_408 : decode cX5_apply 408 = .ok (.aload_n 0, 1) := by decide +kernel
theorem dX5_apply_409 : decode cX5_apply 409 = .ok (.getfield 33, 3) := by decide +kernel
theorem dX5_apply_412 : decode cX5_apply 412 = .ok (.iconst 0, 1) := by decide +kernel
theorem dX5_apply_413 : decode cX5_apply 413 = .ok (.iaload, 1) := by decide +kernel
theorem dX5_apply_414 : decode cX5_apply 414 = .ok (.invokevirtual 55, 3) := by decide +kernel
theorem dX5_apply_417 : decode cX5_apply 417 = .ok (.iload_n 2, 1) := by decide +kernel
theorem dX5_apply_418 : decode cX5_apply 418 = .ok (.invokevirtual 55, 3) := by decide +kernel
theorem dX5_apply_421 : decode cX5_apply 421 = .ok (.invokevirtual 59, 3) := by decide +kernel
theorem dX5_apply_424 : decode cX5_apply 424 = .ok (.ireturn, 1) := by decide +kernel
theorem dX5_apply_425 : decode cX5_apply 425 = .ok (.aload_n 1, 1) := by decide +kernel
theorem dX5_apply_426 : decode cX5_apply 426 = .ok (.new 50, 3) := by decide +kernel
theorem dX5_apply_429 : decode cX5_apply 429 = .ok (.dup, 1) := by decide +kernel
theorem dX5_apply_430 : decode cX5_apply 430 = .ok (.bipush 20, 2) := by decide +kernel
theorem dX5_apply_432 : decode cX5_apply 432 = .ok (.aload_n 0, 1) := by decide +kernel
theorem dX5_apply_433 : decode cX5_apply 433 = .ok (.getfield 43, 3) := by decide +kernel
theorem dX5_apply_436 : decode cX5_apply 436 = .ok (.invokespecial 65, 3) := by decide +kernel
theorem dX5_apply_439 : decode cX5_apply 439 = .ok (.aload_n 0, 1) := by decide +kernel
theorem dX5_apply_440 : decode cX5_apply 440 = .ok (.getfield 33, 3) := by decide +kernel
theorem dX5_apply_443 : decode cX5_apply 443 = .ok (.iconst 0, 1) := by decide +kernel
theorem dX5_apply_444 : decode cX5_apply 444 = .ok (.iaload, 1) := by decide +kernel
theorem dX5_apply_445 : decode cX5_apply 445 = .ok (.invokevirtual 55, 3) := by decide +kernel
theorem dX5_apply_448 : decode cX5_apply 448 = .ok (.iload_n 2, 1) := by decide +kernel
theorem dX5_apply_449 : decode cX5_apply 449 = .ok (.invokevirtual 55, 3) := by decide +kernel
theorem dX5_apply_452 : decode cX5_apply 452 = .ok (.invokevirtual 59, 3) := by decide +kernel
theorem dX5_apply_455 : decode cX5_apply 455 = .ok (.ireturn, 1) := by decide +kernel
theorem dX5_apply_456 : decode cX5_apply 456 = .ok (.aload_n 1, 1) := by decide +kernel
theorem dX5_apply_457 : decode cX5_apply 457 = .ok (.new 50, 3) := by decide +kernel
theorem dX5_apply_460 : decode cX5_apply 460 = .ok (.dup, 1) := by decide +kernel
theorem dX5_apply_461 : decode cX5_apply 461 = .ok (.bipush 21, 2) := by decide +kernel
theorem dX5_apply_463 : decode cX5_apply 463 = .ok (.aload_n 0, 1) := by decide +kernel
theorem dX5_apply_464 : decode cX5_apply 464 = .ok (.getfield 43, 3) := by decide +kernel
theorem dX5_apply_467 : decode cX5_apply 467 = .ok (.aload_n 0, 1) := by decide +kernel
theorem dX5_apply_468 : decode cX5_apply 468 = .ok (.getfield 7, 3) := by decide +kernel
theorem dX5_apply_471 : decode cX5_apply 471 = .ok (.iconst 0, 1) := by decide +kernel
theorem dX5_apply_472 : decode cX5_apply 472 = .ok (.invokespecial 52, 3) := by decide +kernel
theorem dX5_apply_475 : decode cX5_apply 475 = .ok (.iload_n 2, 1) := by decide +kernel
theorem dX5_apply_476 : decode cX5_apply 476 = .ok (.invokevirtual 55, 3) := by decide +kernel
theorem dX5_apply_479 : decode cX5_apply 479 = .ok (.aload_n 0, 1) := by decide +kernel
theorem dX5_apply_480 : decode cX5_apply 480 = .ok (.getfield 33, 3) := by decide +kernel
theorem dX5_apply_483 : decode cX5_apply 483 = .ok (.iconst 0, 1) := by decide +kernel
theorem dX5_apply_484 : decode cX5_apply 484 = .ok (.iaload, 1) := by decide +kernel
theorem dX5_apply_485 : decode cX5_apply 485 = .ok (.invokevirtual 55, 3) := by decide +kernel
theorem dX5_apply_488 : decode cX5_apply 488 = .ok (.invokevirtual 59, 3) := by decide +kernel
theorem dX5_apply_491 : decode cX5_apply 491 = .ok (.ireturn, 1) := by decide +kernel
theorem dX5_apply_492 : decode cX5_apply 492 = .ok (.aload_n 1, 1) := by decide +kernel
theorem dX5_apply_493 : decode cX5_apply 493 = .ok (.aload_n 0, 1) := by decide +kernel
theorem dX5_apply_494 : decode cX5_apply 494 = .ok (.bipush 24, 2) := by decide +kernel
theorem dX5_apply_496 : decode cX5_apply 496 = .ok (.invokevirtual 68, 3) := by decide +kernel
theorem dX5_apply_499 : decode cX5_apply 499 = .ok (.iload_n 2, 1) := by decide +kernel
theorem dX5_apply_500 : decode cX5_apply 500 = .ok (.invokevirtual 55, 3) := by decide +kernel
theorem dX5_apply_503 : decode cX5_apply 503 = .ok (.invokevirtual 59, 3) := by decide +kernel
theorem dX5_apply_506 : decode cX5_apply 506 = .ok (.ireturn, 1) := by decide +kernel
theorem dX5_apply_507 : decode cX5_apply 507 = .ok (.aload_n 1, 1) := by decide +kernel
theorem dX5_apply_508 : decode cX5_apply 508 = .ok (.aload_n 0, 1) := by decide +kernel
theorem dX5_apply_509 : decode cX5_apply 509 = .ok (.invokevirtual 71, 3) := by decide +kernel
theorem dX5_apply_512 : decode cX5_apply 512 = .ok (.iload_n 2, 1) := by decide +kernel
theorem dX5_apply_513 : decode cX5_apply 513 = .ok (.invokevirtual 55, 3) := by decide +kernel
theorem dX5_apply_516 : decode cX5_apply 516 = .ok (.invokevirtual 59, 3) := by decide +kernel
theorem dX5_apply_519 : decode cX5_apply 519 = .ok (.ireturn, 1) := by decide +kernel
theorem dX5_apply_520 : decode cX5_apply 520 = .ok (.aload_n 0, 1) := by decide +kernel
theorem dX5_apply_521 : decode cX5_apply 521 = .ok (.getfield 22, 3) := by decide +kernel
theorem dX5_apply_524 : decode cX5_apply 524 = .ok (.aload_n 1, 1) := by decide +kernel
theorem dX5_apply_525 : decode cX5_apply 525 = .ok (.iload_n 2, 1) := by decide +kernel
theorem dX5_apply_526 : decode cX5_apply 526 = .ok (.invokestatic 75, 3) := by decide +kernel
theorem dX5_apply_529 : decode cX5_apply 529 = .ok (.ireturn, 1) := by decide +kernel
theorem dX5_apply_530 : decode cX5_apply 530 = .ok (.aload_n 0, 1) := by decide +kernel
theorem dX5_apply_531 : decode cX5_apply 531 = .ok (.aload_n 1, 1) := by decide +kernel
theorem dX5_apply_532 : decode cX5_apply 532 = .ok (.iload_n 2, 1) := by decide +kernel
theorem dX5_apply_533 : decode cX5_apply 533 = .ok (.invokevirtual 79, 3) := by decide +kernel
theorem dX5_apply_536 : decode cX5_apply 536 = .ok (.ireturn, 1) := by decide +kernel
theorem dX5_applyWithFun_0 : decode cX5_applyWithFun 0 = .ok (.aload_n 0, 1) := by decide +kernel
theorem dX5_applyWithFun_1 : decode cX5_applyWithFun 1 = .ok (.getfield 40, 3) := by decide +kernel
theorem dX5_applyWithFun_4 : decode cX5_applyWithFun 4 = .ok (.bipush 12, 2) := by decide +kernel
theorem dX5_applyWithFun_6 : decode cX5_applyWithFun 6 = .ok (.if_icmp .ne 69, 3) := by decide +kernel
theorem dX5_applyWithFun_9 : decode cX5_applyWithFun 9 = .ok (.aload_n 1, 1) := by decide +kernel
theorem dX5_applyWithFun_10 : decode cX5_applyWithFun 10 = .ok (.new 50, 3) := by decide +kernel
theorem dX5_applyWithFun_13 : decode cX5_applyWithFun 13 = .ok (.dup, 1) := by decide +kernel
theorem dX5_applyWithFun_14 : decode cX5_applyWithFun 14 = .ok (.bipush 9, 2) := by decide +kernel
theorem dX5_applyWithFun_16 : decode cX5_applyWithFun 16 = .ok (.aload_n 0, 1) := by decide +kernel
theorem dX5_applyWithFun_17 : decode cX5_applyWithFun 17 = .ok (.getfield 43, 3) := by decide +kernel
theorem dX5_applyWithFun_20 : decode cX5_applyWithFun 20 = .ok (.iconst 1, 1) := by decide +kernel
theorem dX5_applyWithFun_21 : decode cX5_applyWithFun 21 = .ok (.aload_n 0, 1) := by decide +kernel
theorem dX5_applyWithFun_22 : decode cX5_applyWithFun 22 = .ok (.getfield 7, 3) := by decide +kernel
theorem dX5_applyWithFun_25 : decode cX5_applyWithFun 25 = .ok (.invokespecial 52, 3) := by decide +kernel
theorem dX5_applyWithFun_28 : decode cX5_applyWithFun 28 = .ok (.iload_n 2, 1) := by decide +kernel
theorem dX5_applyWithFun_29 : decode cX5_applyWithFun 29 = .ok (.invokevirtual 55, 3) := by decide +kernel
theorem dX5_applyWithFun_32 : decode cX5_applyWithFun 32 = .ok (.invokevirtual 59, 3) := by decide +kernel
theorem dX5_applyWithFun_35 : decode cX5_applyWithFun 35 = .ok (.istore_n 3, 1) := by decide +kernel
theorem dX5_applyWithFun_36 : decode cX5_applyWithFun 36 = .ok (.aload_n 0, 1) := by decide +kernel
theorem dX5_applyWithFun_37 : decode cX5_applyWithFun 37 = .ok (.getfield 22, 3) := by decide +kernel
theorem dX5_applyWithFun_40 : decode cX5_applyWithFun 40 = .ok (.aload_n 1, 1) := by decide +kernel
theorem dX5_applyWithFun_41 : decode cX5_applyWithFun 41 = .ok (.iload_n 3, 1) := by decide +kernel
theorem dX5_applyWithFun_42 : decode cX5_applyWithFun 42 = .ok (.invokestatic 75, 3) := by decide +kernel
theorem dX5_applyWithFun_45 : decode cX5_applyWithFun 45 = .ok (.istore 4, 2) := by decide +kernel
theorem dX5_applyWithFun_47 : decode cX5_applyWithFun 47 = .ok (.aload_n 1, 1) := by decide +kernel
theorem dX5_applyWithFun_48 : decode cX5_applyWithFun 48 = .ok (.new 50, 3) := by decide +kernel
theorem dX5_applyWithFun_51 : decode cX5_applyWithFun 51 = .ok (.dup, 1) := by decide +kernel
theorem dX5_applyWithFun_52 : decode cX5_applyWithFun 52 = .ok (.bipush 9, 2) := by decide +kernel
theorem dX5_applyWithFun_54 : decode cX5_applyWithFun 54 = .ok (.aload_n 0, 1) := by decide +kernel
theorem dX5_applyWithFun_55 : decode cX5_applyWithFun 55 = .ok (.getfield 43, 3) := by decide +kernel
theorem dX5_applyWithFun_58 : decode cX5_applyWithFun 58 = .ok (.aload_n 0, 1) := by decide +kernel
theorem dX5_applyWithFun_59 : decode cX5_applyWithFun 59 = .ok (.getfield 7, 3) := by decide +kernel
theorem dX5_applyWithFun_62 : decode cX5_applyWithFun 62 = .ok (.iconst 1, 1) := by decide +kernel
theorem dX5_applyWithFun_63 : decode cX5_applyWithFun 63 = .ok (.invokespecial 52, 3) := by decide +kernel
theorem dX5_applyWithFun_66 : decode cX5_applyWithFun 66 = .ok (.iload 4, 2) := by decide +kernel
theorem dX5_applyWithFun_68 : decode cX5_applyWithFun 68 = .ok (.invokevirtual 55, 3) := by decide +kernel
theorem dX5_applyWithFun_71 : decode cX5_applyWithFun 71 = .ok (.invokevirtual 59, 3) := by decide +kernel
theorem dX5_applyWithFun_74 : decode cX5_applyWithFun 74 = .ok (.ireturn, 1) := by decide +kernel
theorem dX5_applyWithFun_75 : decode cX5_applyWithFun 75 = .ok (.aload_n 0, 1) := by decide +kernel
theorem dX5_applyWithFun_76 : decode cX5_applyWithFun 76 = .ok (.getfield 40, 3) := by decide +kernel
theorem dX5_applyWithFun_79 : decode cX5_applyWithFun 79 = .ok (.bipush 18, 2) := by decide +kernel
theorem dX5_applyWithFun_81 : decode cX5_applyWithFun 81 = .ok (.if_icmp .ne 97, 3) := by decide +kernel
theorem dX5_applyWithFun_84 : decode cX5_applyWithFun 84 = .ok (.aload_n 1, 1) := by decide +kernel
theorem dX5_applyWithFun_85 : decode cX5_applyWithFun 85 = .ok (.new 50, 3) := by decide +kernel
theorem dX5_applyWithFun_88 : decode cX5_applyWithFun 88 = .ok (.dup, 1) := by decide +kernel
theorem dX5_applyWithFun_89 : decode cX5_applyWithFun 89 = .ok (.bipush 22, 2) := by decide +kernel
theorem dX5_applyWithFun_91 : decode cX5_applyWithFun 91 = .ok (.aload_n 0, 1) := by decide +kernel
theorem dX5_applyWithFun_92 : decode cX5_applyWithFun 92 = .ok (.getfield 43, 3) := by decide +kernel
theorem dX5_applyWithFun_95 : decode cX5_applyWithFun 95 = .ok (.aload_n 0, 1) := by decide +kernel
theorem dX5_applyWithFun_96 : decode cX5_applyWithFun 96 = .ok (.getfield 7, 3) := by decide +kernel
theorem dX5_applyWithFun_99 : decode cX5_applyWithFun 99 = .ok (.iconst 0, 1) := by decide +kernel
theorem dX5_applyWithFun_100 : decode cX5_applyWithFun 100 = .ok (.invokespecial 52, 3) := by decide +kernel
theorem dX5_applyWithFun_103 : decode cX5_applyWithFun 103 = .ok (.iload_n 2, 1) := by decide +kernel
theorem dX5_applyWithFun_104 : decode cX5_applyWithFun 104 = .ok (.invokevirtual 55, 3) := by decide +kernel
theorem dX5_applyWithFun_107 : decode cX5_applyWithFun 107 = .ok (.invokevirtual 59, 3) := by decide +kernel
theorem dX5_applyWithFun_110 : decode cX5_applyWithFun 110 = .ok (.istore_n 3, 1) := by decide +kernel
theorem dX5_applyWithFun_111 : decode cX5_applyWithFun 111 = .ok (.aload_n 1, 1) := by decide +kernel
theorem dX5_applyWithFun_112 : decode cX5_applyWithFun 112 = .ok (.new 50, 3) := by decide +kernel
theorem dX5_applyWithFun_115 : decode cX5_applyWithFun 115 = .ok (.dup, 1) := by decide +kernel
theorem dX5_applyWithFun_116 : decode cX5_applyWithFun 116 = .ok (.bipush 23, 2) := by decide +kernel
theorem dX5_applyWithFun_118 : decode cX5_applyWithFun 118 = .ok (.aload_n 0, 1) := by decide +kernel
theorem dX5_applyWithFun_119 : decode cX5_applyWithFun 119 = .ok (.getfield 43, 3) := by decide +kernel
theorem dX5_applyWithFun_122 : decode cX5_applyWithFun 122 = .ok (.aload_n 0, 1) := by decide +kernel
theorem dX5_applyWithFun_123 : decode cX5_applyWithFun 123 = .ok (.getfield 7, 3) := by decide +kernel
theorem dX5_applyWithFun_126 : decode cX5_applyWithFun 126 = .ok (.iconst 0, 1) := by decide +kernel
theorem dX5_applyWithFun_127 : decode cX5_applyWithFun 127 = .ok (.invokespecial 52, 3) := by decide +kernel
theorem dX5_applyWithFun_130 : decode cX5_applyWithFun 130 = .ok (.iload_n 2, 1) := by decide +kernel
theorem dX5_applyWithFun_131 : decode cX5_applyWithFun 131 = .ok (.invokevirtual 55, 3) := by decide +kernel
theorem dX5_applyWithFun_134 : decode cX5_applyWithFun 134 = .ok (.invokevirtual 59, 3) := by decide +kernel
theorem dX5_applyWithFun_137 : decode cX5_applyWithFun 137 = .ok (.istore 4, 2) := by decide +kernel
theorem dX5_applyWithFun_139 : decode cX5_applyWithFun 139 = .ok (.aload_n 0, 1) := by decide +kernel
theorem dX5_applyWithFun_140 : decode cX5_applyWithFun 140 = .ok (.getfield 22, 3) := by decide +kernel
theorem dX5_applyWithFun_143 : decode cX5_applyWithFun 143 = .ok (.aload_n 1, 1) := by decide +kernel
theorem dX5_applyWithFun_144 : decode cX5_applyWithFun 144 = .ok (.iload 4, 2) := by decide +kernel
theorem dX5_applyWithFun_146 : decode cX5_applyWithFun 146 = .ok (.invokestatic 75, 3) := by decide +kernel
theorem dX5_applyWithFun_149 : decode cX5_applyWithFun 149 = .ok (.istore 5, 2) := by decide +kernel
theorem dX5_applyWithFun_151 : decode cX5_applyWithFun 151 = .ok (.aload_n 1, 1) := by decide +kernel
theorem dX5_applyWithFun_152 : decode cX5_applyWithFun 152 = .ok (.new 50, 3) := by decide +kernel
theorem dX5_applyWithFun_155 : decode cX5_applyWithFun 155 = .ok (.dup, 1) := by decide +kernel
theorem dX5_applyWithFun_156 : decode cX5_applyWithFun 156 = .ok (.bipush 8, 2) := by decide +kernel
theorem dX5_applyWithFun_158 : decode cX5_applyWithFun 158 = .ok (.aload_n 0, 1) := by decide +kernel
theorem dX5_applyWithFun_159 : decode cX5_applyWithFun 159 = .ok (.getfield 43, 3) := by decide +kernel
theorem dX5_applyWithFun_162 : decode cX5_applyWithFun 162 = .ok (.invokespecial 65, 3) := by decide +kernel
theorem dX5_applyWithFun_165 : decode cX5_applyWithFun 165 = .ok (.iload_n 3, 1) := by decide +kernel
theorem dX5_applyWithFun_166 : decode cX5_applyWithFun 166 = .ok (.invokevirtual 55, 3) := by decide +kernel
theorem dX5_applyWithFun_169 : decode cX5_applyWithFun 169 = .ok (.iload 5, 2) := by decide +kernel
theorem dX5_applyWithFun_171 : decode cX5_applyWithFun 171 = .ok (.invokevirtual 55, 3) := by decide +kernel
theorem dX5_applyWithFun_174 : decode cX5_applyWithFun 174 = .ok (.invokevirtual 59, 3) := by decide +kernel
theorem dX5_applyWithFun_177 : decode cX5_applyWithFun 177 = .ok (.ireturn, 1) := by decide +kernel
theorem dX5_applyWithFun_178 : decode cX5_applyWithFun 178 = .ok (.aload_n 0, 1) := by decide +kernel
theorem dX5_applyWithFun_179 : decode cX5_applyWithFun 179 = .ok (.getfield 22, 3) := by decide +kernel
theorem dX5_applyWithFun_182 : decode cX5_applyWithFun 182 = .ok (.aload_n 1, 1) := by decide +kernel
theorem dX5_applyWithFun_183 : decode cX5_applyWithFun 183 = .ok (.iload_n 2, 1) := by decide +kernel
theorem dX5_applyWithFun_184 : decode cX5_applyWithFun 184 = .ok (.invokestatic 75, 3) := by decide +kernel
theorem dX5_applyWithFun_187 : decode cX5_applyWithFun 187 = .ok (.istore_n 3, 1) := by decide +kernel
theorem dX5_applyWithFun_188 : decode cX5_applyWithFun 188 = .ok (.aload_n 0, 1) := by decide +kernel
theorem dX5_applyWithFun_189 : decode cX5_applyWithFun 189 = .ok (.getfield 40, 3) := by decide +kernel
theorem dX5_applyWithFun_192 : decode cX5_applyWithFun 192 = .ok (.tableswitch 250 5 19 #[76, 107, 191, 250, 250, 250, 141, 250, 250, 250, 250, 250, 250, 250, 172], 76) := by decide +kernel
theorem dX5_applyWithFun_268 : decode cX5_applyWithFun 268 = .ok (.aload_n 1, 1) := by decide +kernel
theorem dX5_applyWithFun_269 : decode cX5_applyWithFun 269 = .ok (.new 50, 3) := by decide +kernel
theorem dX5_applyWithFun_272 : decode cX5_applyWithFun 272 = .ok (.dup, 1) := by decide +kernel
theorem dX5_applyWithFun_273 : decode cX5_applyWithFun 273 = .ok (.bipush 12, 2) := by decide +kernel
theorem dX5_applyWithFun_275 : decode cX5_applyWithFun 275 = .ok (.aload_n 0, 1) := by decide +kernel
theorem dX5_applyWithFun_276 : decode cX5_applyWithFun 276 = .ok (.getfield 43, 3) := by decide +kernel
theorem dX5_applyWithFun_279 : decode cX5_applyWithFun 279 = .ok (.aload_n 0, 1) := by decide +kernel
theorem dX5_applyWithFun_280 : decode cX5_applyWithFun 280 = .ok (.getfield 7, 3) := by decide +kernel
theorem dX5_applyWithFun_283 : decode cX5_applyWithFun 283 = .ok (.iconst 0, 1) := by decide +kernel
theorem dX5_applyWithFun_284 : decode cX5_applyWithFun 284 = .ok (.invokespecial 52, 3) := by decide +kernel
theorem dX5_applyWithFun_287 : decode cX5_applyWithFun 287 = .ok (.iload_n 2, 1) := by decide +kernel
theorem dX5_applyWithFun_288 : decode cX5_applyWithFun 288 = .ok (.invokevirtual 55, 3) := by decide +kernel
theorem dX5_applyWithFun_291 : decode cX5_applyWithFun 291 = .ok (.iload_n 3, 1) := by decide +kernel
theorem dX5_applyWithFun_292 : decode cX5_applyWithFun 292 = .ok (.invokevirtual 55, 3) := by decide +kernel
theorem dX5_applyWithFun_295 : decode cX5_applyWithFun 295 = .ok (.invokevirtual 59, 3) := by decide +kernel
theorem dX5_applyWithFun_298 : decode cX5_applyWithFun 298 = .ok (.ireturn, 1) := by decide +kernel
theorem dX5_applyWithFun_299 : decode cX5_applyWithFun 299 = .ok (.aload_n 1, 1) := by decide +kernel
theorem dX5_applyWithFun_300 : decode cX5_applyWithFun 300 = .ok (.new 50, 3) := by decide +kernel
theorem dX5_applyWithFun_303 : decode cX5_applyWithFun 303 = .ok (.dup, 1) := by decide +kernel
theorem dX5_applyWithFun_304 : decode cX5_applyWithFun 304 = .ok (.bipush 13, 2) := by decide +kernel
theorem dX5_applyWithFun_306 : decode cX5_applyWithFun 306 = .ok (.aload_n 0, 1) := by decide +kernel
theorem dX5_applyWithFun_307 : decode cX5_applyWithFun 307 = .ok (.getfield 43, 3) := by decide +kernel
theorem dX5_applyWithFun_310 : decode cX5_applyWithFun 310 = .ok (.aload_n 0, 1) := by decide +kernel
theorem dX5_applyWithFun_311 : decode cX5_applyWithFun 311 = .ok (.getfield 7, 3) := by decide +kernel
theorem dX5_applyWithFun_314 : decode cX5_applyWithFun 314 = .ok (.aload_n 0, 1) := by decide +kernel
theorem dX5_applyWithFun_315 : decode cX5_applyWithFun 315 = .ok (.getfield 13, 3) := by decide +kernel
theorem dX5_applyWithFun_318 : decode cX5_applyWithFun 318 = .ok (.invokespecial 52, 3) := by decide +kernel
theorem dX5_applyWithFun_321 : decode cX5_applyWithFun 321 = .ok (.iload_n 2, 1) := by decide +kernel
theorem dX5_applyWithFun_322 : decode cX5_applyWithFun 322 = .ok (.invokevirtual 55, 3) := by decide +kernel
theorem dX5_applyWithFun_325 : decode cX5_applyWithFun 325 = .ok (.iload_n 3, 1) := by decide +kernel
theorem dX5_applyWithFun_326 : decode cX5_applyWithFun 326 = .ok (.invokevirtual 55, 3) := by decide +kernel
theorem dX5_applyWithFun_329 : decode cX5_applyWithFun 329 = .ok (.invokevirtual 59, 3) := by decide +kernel
theorem dX5_applyWithFun_332 : decode cX5_applyWithFun 332 = .ok (.ireturn, 1) := by decide +kernel
theorem dX5_applyWithFun_333 : decode cX5_applyWithFun 333 = .ok (.aload_n 1, 1) := by decide +kernel
theorem dX5_applyWithFun_334 : decode cX5_applyWithFun 334 = .ok (.new 50, 3) := by decide +kernel
theorem dX5_applyWithFun_337 : decode cX5_applyWithFun 337 = .ok (.dup, 1) := by decide +kernel
theorem dX5_applyWithFun_338 : decode cX5_applyWithFun 338 = .ok (.bipush 16, 2) := by decide +kernel
theorem dX5_applyWithFun_340 : decode cX5_applyWithFun 340 = .ok (.aload_n 0, 1) := by decide +kernel
theorem dX5_applyWithFun_341 : decode cX5_applyWithFun 341 = .ok (.getfield 43, 3) := by decide +kernel
theorem dX5_applyWithFun_344 : decode cX5_applyWithFun 344 = .ok (.aload_n 0, 1) := by decide +kernel
theorem dX5_applyWithFun_345 : decode cX5_applyWithFun 345 = .ok (.getfield 7, 3) := by decide +kernel
theorem dX5_applyWithFun_348 : decode cX5_applyWithFun 348 = .ok (.iconst 0, 1) := by decide +kernel
theorem dX5_applyWithFun_349 : decode cX5_applyWithFun 349 = .ok (.invokespecial 52, 3) := by decide +kernel
theorem dX5_applyWithFun_352 : decode cX5_applyWithFun 352 = .ok (.iload_n 2, 1) := by decide +kernel
theorem dX5_applyWithFun_353 : decode cX5_applyWithFun 353 = .ok (.invokevirtual 55, 3) := by decide +kernel
theorem dX5_applyWithFun_356 : decode cX5_applyWithFun 356 = .ok (.iload_n 3, 1) := by decide +kernel
theorem dX5_applyWithFun_357 : decode cX5_applyWithFun 357 = .ok (.invokevirtual 55, 3) := by decide +kernel
theorem dX5_applyWithFun_360 : decode cX5_applyWithFun 360 = .ok (.invokevirtual 59, 3) := by decide +kernel
theorem dX5_applyWithFun_363 : decode cX5_applyWithFun 363 = .ok (.ireturn, 1) := by decide +kernel
theorem dX5_applyWithFun_364 : decode cX5_applyWithFun 364 = .ok (.aload_n 1, 1) := by decide +kernel
theorem dX5_applyWithFun_365 : decode cX5_applyWithFun 365 = .ok (.aload_n 0, 1) := by decide +kernel
theorem dX5_applyWithFun_366 : decode cX5_applyWithFun 366 = .ok (.bipush 17, 2) := by decide +kernel
theorem dX5_applyWithFun_368 : decode cX5_applyWithFun 368 = .ok (.invokevirtual 68, 3) := by decide +kernel
theorem dX5_applyWithFun_371 : decode cX5_applyWithFun 371 = .ok (.iload_n 2, 1) := by decide +kernel
theorem dX5_applyWithFun_372 : decode cX5_applyWithFun 372 = .ok (.invokevirtual 55, 3) := by decide +kernel
theorem dX5_applyWithFun_375 : decode cX5_applyWithFun 375 = .ok (.iload_n 3, 1) := by decide +kernel
theorem dX5_applyWithFun_376 : decode cX5_applyWithFun 376 = .ok (.invokevirtual 55, 3) := by decide +kernel
theorem dX5_applyWithFun_379 : decode cX5_applyWithFun 379 = .ok (.invokevirtual 59, 3) := by decide +kernel
theorem dX5_applyWithFun_382 : decode cX5_applyWithFun 382 = .ok (.ireturn, 1) := by decide +kernel
theorem dX5_applyWithFun_383 : decode cX5_applyWithFun 383 = .ok (.aload_n 1, 1) := by decide +kernel
theorem dX5_applyWithFun_384 : decode cX5_applyWithFun 384 = .ok (.new 50, 3) := by decide +kernel
theorem dX5_applyWithFun_387 : decode cX5_applyWithFun 387 = .ok (.dup, 1) := by decide +kernel
theorem dX5_applyWithFun_388 : decode cX5_applyWithFun 388 = .ok (.bipush 10, 2) := by decide +kernel
theorem dX5_applyWithFun_390 : decode cX5_applyWithFun 390 = .ok (.aload_n 0, 1) := by decide +kernel
theorem dX5_applyWithFun_391 : decode cX5_applyWithFun 391 = .ok (.getfield 43, 3) := by decide +kernel
theorem dX5_applyWithFun_394 : decode cX5_applyWithFun 394 = .ok (.aload_n 0, 1) := by decide +kernel
theorem dX5_applyWithFun_395 : decode cX5_applyWithFun 395 = .ok (.getfield 7, 3) := by decide +kernel
theorem dX5_applyWithFun_398 : decode cX5_applyWithFun 398 = .ok (.ineg, 1) := by decide +kernel
theorem dX5_applyWithFun_399 : decode cX5_applyWithFun 399 = .ok (.aload_n 0, 1) := by decide +kernel
theorem dX5_applyWithFun_400 : decode cX5_applyWithFun 400 = .ok (.getfield 13, 3) := by decide +kernel
theorem dX5_applyWithFun_403 : decode cX5_applyWithFun 403 = .ok (.invokespecial 52, 3) := by decide +kernel
theorem dX5_applyWithFun_406 : decode cX5_applyWithFun 406 = .ok (.iload_n 3, 1) := by decide +kernel
theorem dX5_applyWithFun_407 : decode cX5_applyWithFun 407 = .ok (.invokevirtual 55, 3) := by decide +kernel
theorem dX5_applyWithFun_410 : decode cX5_applyWithFun 410 = .ok (.invokevirtual 59, 3) := by decide +kernel
theorem dX5_applyWithFun_413 : decode cX5_applyWithFun 413 = .ok (.istore 4, 2) := by decide +kernel
theorem dX5_applyWithFun_415 : decode cX5_applyWithFun 415 = .ok (.aload_n 1, 1) := by decide +kernel
theorem dX5_applyWithFun_416 : decode cX5_applyWithFun 416 = .ok (.new 50, 3) := by decide +kernel
theorem dX5_applyWithFun_419 : decode cX5_applyWithFun 419 = .ok (.dup, 1) := by decide +kernel
theorem dX5_applyWithFun_420 : decode cX5_applyWithFun 420 = .ok (.bipush 8, 2) := by decide +kernel
theorem dX5_applyWithFun_422 : decode cX5_applyWithFun 422 = .ok (.aload_n 0, 1) := by decide +kernel
theorem dX5_applyWithFun_423 : decode cX5_applyWithFun 423 = .ok (.getfield 43, 3) := by decide +kernel
theorem dX5_applyWithFun_426 : decode cX5_applyWithFun 426 = .ok (.invokespecial 65, 3) := by decide +kernel
theorem dX5_applyWithFun_429 : decode cX5_applyWithFun 429 = .ok (.iload_n 2, 1) := by decide +kernel
theorem dX5_applyWithFun_430 : decode cX5_applyWithFun 430 = .ok (.invokevirtual 55, 3) := by decide +kernel
theorem dX5_applyWithFun_433 : decode cX5_applyWithFun 433 = .ok (.iload 4, 2) := by decide +kernel
theorem dX5_applyWithFun_435 : decode cX5_applyWithFun 435 = .ok (.invokevirtual 55, 3) := by decide +kernel
theorem dX5_applyWithFun_438 : decode cX5_applyWithFun 438 = .ok (.invokevirtual 59, 3) := by decide +kernel
theorem dX5_applyWithFun_441 : decode cX5_applyWithFun 441 = .ok (.ireturn, 1) := by decide +kernel
theorem dX5_applyWithFun_442 : decode cX5_applyWithFun 442 = .ok (.aload_n 1, 1) := by decide +kernel
theorem dX5_applyWithFun_443 : decode cX5_applyWithFun 443 = .ok (.new 50, 3) := by decide +kernel
theorem dX5_applyWithFun_446 : decode cX5_applyWithFun 446 = .ok (.dup, 1) := by decide +kernel
theorem dX5_applyWithFun_447 : decode cX5_applyWithFun 447 = .ok (.bipush 8, 2) := by decide +kernel
theorem dX5_applyWithFun_449 : decode cX5_applyWithFun 449 = .ok (.aload_n 0, 1) := by decide +kernel
theorem dX5_applyWithFun_450 : decode cX5_applyWithFun 450 = .ok (.getfield 43, 3) := by decide +kernel
theorem dX5_applyWithFun_453 : decode cX5_applyWithFun 453 = .ok (.invokespecial 65, 3) := by decide +kernel
theorem dX5_applyWithFun_456 : decode cX5_applyWithFun 456 = .ok (.iload_n 2, 1) := by decide +kernel
theorem dX5_applyWithFun_457 : decode cX5_applyWithFun 457 = .ok (.invokevirtual 55, 3) := by decide +kernel
theorem dX5_applyWithFun_460 : decode cX5_applyWithFun 460 = .ok (.iload_n 3, 1) := by decide +kernel
theorem dX5_applyWithFun_461 : decode cX5_applyWithFun 461 = .ok (.invokevirtual 55, 3) := by decide +kernel
theorem dX5_applyWithFun_464 : decode cX5_applyWithFun 464 = .ok (.invokevirtual 59, 3) := by decide +kernel
theorem dX5_applyWithFun_467 : decode cX5_applyWithFun 467 = .ok (.ireturn, 1) := by decide +kernel
theorem dX5_spanStep_0 : decode cX5_spanStep 0 = .ok (.new 50, 3) := by decide +kernel
theorem dX5_spanStep_3 : decode cX5_spanStep 3 = .ok (.dup, 1) := by decide +kernel
theorem dX5_spanStep_4 : decode cX5_spanStep 4 = .ok (.iload_n 1, 1) := by decide +kernel
theorem dX5_spanStep_5 : decode cX5_spanStep 5 = .ok (.aload_n 0, 1) := by decide +kernel
theorem dX5_spanStep_6 : decode cX5_spanStep 6 = .ok (.getfield 43, 3) := by decide +kernel
theorem dX5_spanStep_9 : decode cX5_spanStep 9 = .ok (.aload_n 0, 1) := by decide +kernel
theorem dX5_spanStep_10 : decode cX5_spanStep 10 = .ok (.getfield 7, 3) := by decide +kernel
theorem dX5_spanStep_13 : decode cX5_spanStep 13 = .ok (.aload_n 0, 1) := by decide +kernel
theorem dX5_spanStep_14 : decode cX5_spanStep 14 = .ok (.getfield 13, 3) := by decide +kernel
theorem dX5_spanStep_17 : decode cX5_spanStep 17 = .ok (.invokespecial 52, 3) := by decide +kernel
theorem dX5_spanStep_20 : decode cX5_spanStep 20 = .ok (.astore_n 2, 1) := by decide +kernel
theorem dX5_spanStep_21 : decode cX5_spanStep 21 = .ok (.aload_n 2, 1) := by decide +kernel
theorem dX5_spanStep_22 : decode cX5_spanStep 22 = .ok (.aload_n 0, 1) := by decide +kernel
theorem dX5_spanStep_23 : decode cX5_spanStep 23 = .ok (.getfield 16, 3) := by decide +kernel
theorem dX5_spanStep_26 : decode cX5_spanStep 26 = .ok (.putfield 82, 3) := by decide +kernel
theorem dX5_spanStep_29 : decode cX5_spanStep 29 = .ok (.aload_n 2, 1) := by decide +kernel
theorem dX5_spanStep_30 : decode cX5_spanStep 30 = .ok (.aload_n 0, 1) := by decide +kernel
theorem dX5_spanStep_31 : decode cX5_spanStep 31 = .ok (.getfield 19, 3) := by decide +kernel
theorem dX5_spanStep_34 : decode cX5_spanStep 34 = .ok (.putfield 83, 3) := by decide +kernel
theorem dX5_spanStep_37 : decode cX5_spanStep 37 = .ok (.aload_n 2, 1) := by decide +kernel
theorem dX5_spanStep_38 : decode cX5_spanStep 38 = .ok (.areturn, 1) := by decide +kernel
theorem dX5_useStep_0 : decode cX5_useStep 0 = .ok (.new 50, 3) := by decide +kernel
theorem dX5_useStep_3 : decode cX5_useStep 3 = .ok (.dup, 1) := by decide +kernel
theorem dX5_useStep_4 : decode cX5_useStep 4 = .ok (.bipush 25, 2) := by decide +kernel
theorem dX5_useStep_6 : decode cX5_useStep 6 = .ok (.aload_n 0, 1) := by decide +kernel
theorem dX5_useStep_7 : decode cX5_useStep 7 = .ok (.getfield 43, 3) := by decide +kernel
theorem dX5_useStep_10 : decode cX5_useStep 10 = .ok (.invokespecial 65, 3) := by decide +kernel
theorem dX5_useStep_13 : decode cX5_useStep 13 = .ok (.astore_n 1, 1) := by decide +kernel
theorem dX5_useStep_14 : decode cX5_useStep 14 = .ok (.aload_n 1, 1) := by decide +kernel
theorem dX5_useStep_15 : decode cX5_useStep 15 = .ok (.aload_n 0, 1) := by decide +kernel
theorem dX5_useStep_16 : decode cX5_useStep 16 = .ok (.getfield 29, 3) := by decide +kernel
theorem dX5_useStep_19 : decode cX5_useStep 19 = .ok (.putfield 84, 3) := by decide +kernel
theorem dX5_useStep_22 : decode cX5_useStep 22 = .ok (.iconst 0, 1) := by decide +kernel
theorem dX5_useStep_23 : decode cX5_useStep 23 = .ok (.istore_n 2, 1) := by decide +kernel
theorem dX5_useStep_24 : decode cX5_useStep 24 = .ok (.iload_n 2, 1) := by decide +kernel
theorem dX5_useStep_25 : decode cX5_useStep 25 = .ok (.aload_n 0, 1) := by decide +kernel
theorem dX5_useStep_26 : decode cX5_useStep 26 = .ok (.getfield 37, 3) := by decide +kernel
theorem dX5_useStep_29 : decode cX5_useStep 29 = .ok (.if_icmp .ge 20, 3) := by decide +kernel
theorem dX5_useStep_32 : decode cX5_useStep 32 = .ok (.aload_n 1, 1) := by decide +kernel
theorem dX5_useStep_33 : decode cX5_useStep 33 = .ok (.aload_n 0, 1) := by decide +kernel
theorem dX5_useStep_34 : decode cX5_useStep 34 = .ok (.getfield 33, 3) := by decide +kernel
theorem dX5_useStep_37 : decode cX5_useStep 37 = .ok (.iload_n 2, 1) := by decide +kernel
theorem dX5_useStep_38 : decode cX5_useStep 38 = .ok (.iaload, 1) := by decide +kernel
theorem dX5_useStep_39 : decode cX5_useStep 39 = .ok (.invokevirtual 55, 3) := by decide +kernel
theorem dX5_useStep_42 : decode cX5_useStep 42 = .ok (.pop, 1) := by decide +kernel
theorem dX5_useStep_43 : decode cX5_useStep 43 = .ok (.iinc 2 1, 3) := by decide +kernel
theorem dX5_useStep_46 : decode cX5_useStep 46 = .ok (.goto (-22), 3) := by decide +kernel
theorem dX5_useStep_49 : decode cX5_useStep 49 = .ok (.aload_n 1, 1) := by decide +kernel
theorem dX5_useStep_50 : decode cX5_useStep 50 = .ok (.areturn, 1) := by decide +kernel
theorem dX6_hasMore_12 : decode cX6_hasMore 12 = .ok (.iconst 1, 1) := by decide +kernel
theorem dX6_hasMore_13 : decode cX6_hasMore 13 = .ok (.goto 4, 3) := by decide +kernel
theorem dX6_line_0 : decode cX6_line 0 = .ok (.aload_n 0, 1) := by decide +kernel
theorem dX6_line_1 : decode cX6_line 1 = .ok (.getfield 31, 3) := by decide +kernel
theorem dX6_line_4 : decode cX6_line 4 = .ok (.getfield 66, 3) := by decide +kernel
theorem dX6_line_7 : decode cX6_line 7 = .ok (.bipush 10, 2) := by decide +kernel
theorem dX6_line_9 : decode cX6_line 9 = .ok (.if_icmp .eq 70, 3) := by decide +kernel
theorem dX6_line_12 : decode cX6_line 12 = .ok (.aload_n 0, 1) := by decide +kernel
theorem dX6_line_13 : decode cX6_line 13 = .ok (.invokevirtual 69, 3) := by decide +kernel
theorem dX6_line_16 : decode cX6_line 16 = .ok (.aload_n 0, 1) := by decide +kernel
theorem dX6_line_17 : decode cX6_line 17 = .ok (.getfield 31, 3) := by decide +kernel
theorem dX6_line_20 : decode cX6_line 20 = .ok (.getfield 72, 3) := by decide +kernel
theorem dX6_line_23 : decode cX6_line 23 = .ok (.ifCond .ne 14, 3) := by decide +kernel
theorem dX6_line_26 : decode cX6_line 26 = .ok (.aload_n 0, 1) := by decide +kernel
theorem dX6_line_27 : decode cX6_line 27 = .ok (.getfield 20, 3) := by decide +kernel
theorem dX6_line_30 : decode cX6_line 30 = .ok (.aload_n 0, 1) := by decide +kernel
theorem dX6_line_31 : decode cX6_line 31 = .ok (.invokevirtual 75, 3) := by decide +kernel
theorem dX6_line_34 : decode cX6_line 34 = .ok (.putfield 78, 3) := by decide +kernel
theorem dX6_line_37 : decode cX6_line 37 = .ok (.aload_n 0, 1) := by decide +kernel
theorem dX6_line_38 : decode cX6_line 38 = .ok (.getfield 31, 3) := by decide +kernel
theorem dX6_line_41 : decode cX6_line 41 = .ok (.getfield 66, 3) := by decide +kernel
theorem dX6_line_44 : decode cX6_line 44 = .ok (.bipush 10, 2) := by decide +kernel
theorem dX6_line_46 : decode cX6_line 46 = .ok (.if_icmp .eq 38, 3) := by decide +kernel
theorem dX6_line_49 : decode cX6_line 49 = .ok (.aload_n 0, 1) := by decide +kernel
theorem dX6_line_50 : decode cX6_line 50 = .ok (.getfield 31, 3) := by decide +kernel
theorem dX6_line_53 : decode cX6_line 53 = .ok (.getfield 66, 3) := by decide +kernel
theorem dX6_line_56 : decode cX6_line 56 = .ok (.bipush 6, 2) := by decide +kernel
theorem dX6_line_58 : decode cX6_line 58 = .ok (.if_icmp .eq 26, 3) := by decide +kernel
theorem dX6_line_61 : decode cX6_line 61 = .ok (.aload_n 0, 1) := by decide +kernel
theorem dX6_line_62 : decode cX6_line 62 = .ok (.getfield 31, 3) := by decide +kernel
theorem dX6_line_65 : decode cX6_line 65 = .ok (.iconst 1, 1) := by decide +kernel
theorem dX6_line_66 : decode cX6_line 66 = .ok (.aload_n 0, 1) := by decide +kernel
theorem dX6_line_67 : decode cX6_line 67 = .ok (.getfield 31, 3) := by decide +kernel
theorem dX6_line_70 : decode cX6_line 70 = .ok (.getfield 81, 3) := by decide +kernel
theorem dX6_line_73 : decode cX6_line 73 = .ok (.invokevirtual 84, 3) := by decide +kernel
theorem dX6_line_76 : decode cX6_line 76 = .ok (.goto 8, 3) := by decide +kernel
theorem dX6_line_79 : decode cX6_line 79 = .ok (.aload_n 0, 1) := by decide +kernel
theorem dX6_line_80 : decode cX6_line 80 = .ok (.aconst_null, 1) := by decide +kernel
theorem dX6_line_81 : decode cX6_line 81 = .ok (.putfield 20, 3) := by decide +kernel
theorem dX6_line_84 : decode cX6_line 84 = .ok (.aload_n 0, 1) := by decide +kernel
theorem dX6_line_85 : decode cX6_line 85 = .ok (.getfield 31, 3) := by decide +kernel
theorem dX6_line_88 : decode cX6_line 88 = .ok (.getfield 72, 3) := by decide +kernel
theorem dX6_line_91 : decode cX6_line 91 = .ok (.ifCond .eq 5, 3) := by decide +kernel
theorem dX6_line_94 : decode cX6_line 94 = .ok (.aconst_null, 1) := by decide +kernel
theorem dX6_line_95 : decode cX6_line 95 = .ok (.areturn, 1) := by decide +kernel
theorem dX6_line_96 : decode cX6_line 96 = .ok (.aload_n 0, 1) := by decide +kernel
theorem dX6_line_97 : decode cX6_line 97 = .ok (.getfield 31, 3) := by decide +kernel
theorem dX6_line_100 : decode cX6_line 100 = .ok (.invokevirtual 88, 3) := by decide +kernel
theorem dX6_line_103 : decode cX6_line 103 = .ok (.aload_n 0, 1) := by decide +kernel
theorem dX6_line_104 : decode cX6_line 104 = .ok (.getfield 20, 3) := by decide +kernel
theorem dX6_line_107 : decode cX6_line 107 = .ok (.areturn, 1) := by decide +kernel
theorem dX6_wholeExp_42 : decode cX6_wholeExp 42 = .ok (.aload_n 0, 1) := by decide +kernel
theorem dX6_wholeExp_43 : decode cX6_wholeExp 43 = .ok (.getfield 31, 3) := by decide +kernel
theorem dX6_wholeExp_46 : decode cX6_wholeExp 46 = .ok (.getfield 66, 3) := by decide +kernel
theorem dX6_wholeExp_49 : decode cX6_wholeExp 49 = .ok (.bipush 10, 2) := by decide +kernel
theorem dX6_wholeExp_51 : decode cX6_wholeExp 51 = .ok (.if_icmp .ne 16, 3) := by decide +kernel
theorem dX6_wholeExp_54 : decode cX6_wholeExp 54 = .ok (.aload_n 0, 1) := by decide +kernel
theorem dX6_wholeExp_55 : decode cX6_wholeExp 55 = .ok (.getfield 31, 3) := by decide +kernel
theorem dX6_wholeExp_58 : decode cX6_wholeExp 58 = .ok (.invokevirtual 88, 3) := by decide +kernel
theorem dX6_wholeExp_61 : decode cX6_wholeExp 61 = .ok (.iinc 1 1, 3) := by decide +kernel
theorem dX6_wholeExp_64 : decode cX6_wholeExp 64 = .ok (.goto (-39), 3) := by decide +kernel
theorem dX6_wholeExp_79 : decode cX6_wholeExp 79 = .ok (.aload_n 0, 1) := by decide +kernel
theorem dX6_wholeExp_80 : decode cX6_wholeExp 80 = .ok (.getfield 31, 3) := by decide +kernel
theorem dX6_wholeExp_83 : decode cX6_wholeExp 83 = .ok (.iconst 1, 1) := by decide +kernel
theorem dX6_wholeExp_84 : decode cX6_wholeExp 84 = .ok (.aload_n 0, 1) := by decide +kernel
theorem dX6_wholeExp_85 : decode cX6_wholeExp 85 = .ok (.getfield 31, 3) := by decide +kernel
theorem dX6_wholeExp_88 : decode cX6_wholeExp 88 = .ok (.getfield 81, 3) := by decide +kernel
theorem dX6_wholeExp_91 : decode cX6_wholeExp 91 = .ok (.invokevirtual 84, 3) := by decide +kernel
theorem dX6_header_0 : decode cX6_header 0 = .ok (.aload_n 0, 1) := by decide +kernel
theorem dX6_header_1 : decode cX6_header 1 = .ok (.getfield 31, 3) := by decide +kernel
theorem dX6_header_4 : decode cX6_header 4 = .ok (.getfield 66, 3) := by decide +kernel
theorem dX6_header_7 : decode cX6_header 7 = .ok (.iconst 1, 1) := by decide +kernel
theorem dX6_header_8 : decode cX6_header 8 = .ok (.if_icmp .eq 19, 3) := by decide +kernel
theorem dX6_header_11 : decode cX6_header 11 = .ok (.aload_n 0, 1) := by decide +kernel
theorem dX6_header_12 : decode cX6_header 12 = .ok (.getfield 31, 3) := by decide +kernel
theorem dX6_header_15 : decode cX6_header 15 = .ok (.iconst 1, 1) := by decide +kernel
theorem dX6_header_16 : decode cX6_header 16 = .ok (.aload_n 0, 1) := by decide +kernel
theorem dX6_header_17 : decode cX6_header 17 = .ok (.getfield 31, 3) := by decide +kernel
theorem dX6_header_20 : decode cX6_header 20 = .ok (.getfield 81, 3) := by decide +kernel
theorem dX6_header_23 : decode cX6_header 23 = .ok (.invokevirtual 84, 3) := by decide +kernel
theorem dX6_header_26 : decode cX6_header 26 = .ok (.return_, 1) := by decide +kernel
theorem dX6_header_27 : decode cX6_header 27 = .ok (.aload_n 0, 1) := by decide +kernel
theorem dX6_header_28 : decode cX6_header 28 = .ok (.aload_n 0, 1) := by decide +kernel
theorem dX6_header_29 : decode cX6_header 29 = .ok (.getfield 31, 3) := by decide +kernel
theorem dX6_header_32 : decode cX6_header 32 = .ok (.getfield 91, 3) := by decide +kernel
theorem dX6_header_35 : decode cX6_header 35 = .ok (.invokevirtual 95, 3) := by decide +kernel
theorem dX6_header_38 : decode cX6_header 38 = .ok (.ifCond .lt 19, 3) := by decide +kernel
theorem dX6_header_41 : decode cX6_header 41 = .ok (.aload_n 0, 1) := by decide +kernel
theorem dX6_header_42 : decode cX6_header 42 = .ok (.getfield 31, 3) := by decide +kernel
theorem dX6_header_45 : decode cX6_header 45 = .ok (.iconst 2, 1) := by decide +kernel
theorem dX6_header_46 : decode cX6_header 46 = .ok (.aload_n 0, 1) := by decide +kernel
theorem dX6_header_47 : decode cX6_header 47 = .ok (.getfield 31, 3) := by decide +kernel
theorem dX6_header_50 : decode cX6_header 50 = .ok (.getfield 81, 3) := by decide +kernel
theorem dX6_header_53 : decode cX6_header 53 = .ok (.invokevirtual 84, 3) := by decide +kernel
theorem dX6_header_56 : decode cX6_header 56 = .ok (.return_, 1) := by decide +kernel
theorem dX6_header_57 : decode cX6_header 57 = .ok (.aload_n 0, 1) := by decide +kernel
theorem dX6_header_58 : decode cX6_header 58 = .ok (.new 15, 3) := by decide +kernel
theorem dX6_header_61 : decode cX6_header 61 = .ok (.dup, 1) := by decide +kernel
theorem dX6_header_62 : decode cX6_header 62 = .ok (.aload_n 0, 1) := by decide +kernel
theorem dX6_header_63 : decode cX6_header 63 = .ok (.getfield 31, 3) := by decide +kernel
theorem dX6_header_66 : decode cX6_header 66 = .ok (.getfield 91, 3) := by decide +kernel
theorem dX6_header_69 : decode cX6_header 69 = .ok (.invokespecial 17, 3) := by decide +kernel
theorem dX6_header_72 : decode cX6_header 72 = .ok (.putfield 20, 3) := by decide +kernel
theorem dX6_header_75 : decode cX6_header 75 = .ok (.aload_n 0, 1) := by decide +kernel
theorem dX6_header_76 : decode cX6_header 76 = .ok (.getfield 31, 3) := by decide +kernel
theorem dX6_header_79 : decode cX6_header 79 = .ok (.invokevirtual 88, 3) := by decide +kernel
theorem dX6_header_82 : decode cX6_header 82 = .ok (.iconst 0, 1) := by decide +kernel
theorem dX6_header_83 : decode cX6_header 83 = .ok (.istore_n 1, 1) := by decide +kernel
theorem dX6_header_84 : decode cX6_header 84 = .ok (.iload_n 1, 1) := by decide +kernel
theorem dX6_header_85 : decode cX6_header 85 = .ok (.sipush 2000, 3) := by decide +kernel
theorem dX6_header_88 : decode cX6_header 88 = .ok (.if_icmp .ge 120, 3) := by decide +kernel
theorem dX6_header_91 : decode cX6_header 91 = .ok (.aload_n 0, 1) := by decide +kernel
theorem dX6_header_92 : decode cX6_header 92 = .ok (.getfield 31, 3) := by decide +kernel
theorem dX6_header_95 : decode cX6_header 95 = .ok (.getfield 66, 3) := by decide +kernel
theorem dX6_header_98 : decode cX6_header 98 = .ok (.iconst 1, 1) := by decide +kernel
theorem dX6_header_99 : decode cX6_header 99 = .ok (.if_icmp .ne 109, 3) := by decide +kernel
theorem dX6_header_102 : decode cX6_header 102 = .ok (.aload_n 0, 1) := by decide +kernel
theorem dX6_header_103 : decode cX6_header 103 = .ok (.aload_n 0, 1) := by decide +kernel
theorem dX6_header_104 : decode cX6_header 104 = .ok (.getfield 31, 3) := by decide +kernel
theorem dX6_header_107 : decode cX6_header 107 = .ok (.getfield 91, 3) := by decide +kernel
theorem dX6_header_110 : decode cX6_header 110 = .ok (.invokevirtual 95, 3) := by decide +kernel
theorem dX6_header_113 : decode cX6_header 113 = .ok (.ifCond .ge 31, 3) := by decide +kernel
theorem dX6_header_116 : decode cX6_header 116 = .ok (.aload_n 0, 1) := by decide +kernel
theorem dX6_header_117 : decode cX6_header 117 = .ok (.getfield 20, 3) := by decide +kernel
theorem dX6_header_120 : decode cX6_header 120 = .ok (.aload_n 0, 1) := by decide +kernel
theorem dX6_header_121 : decode cX6_header 121 = .ok (.getfield 31, 3) := by decide +kernel
theorem dX6_header_124 : decode cX6_header 124 = .ok (.getfield 91, 3) := by decide +kernel
theorem dX6_header_127 : decode cX6_header 127 = .ok (.invokevirtual 99, 3) := by decide +kernel
theorem dX6_header_130 : decode cX6_header 130 = .ok (.ifCond .ne 14, 3) := by decide +kernel
theorem dX6_header_133 : decode cX6_header 133 = .ok (.aload_n 0, 1) := by decide +kernel
theorem dX6_header_134 : decode cX6_header 134 = .ok (.getfield 20, 3) := by decide +kernel
theorem dX6_header_137 : decode cX6_header 137 = .ok (.getfield 103, 3) := by decide +kernel
theorem dX6_header_140 : decode cX6_header 140 = .ok (.iconst 4, 1) := by decide +kernel
theorem dX6_header_141 : decode cX6_header 141 = .ok (.if_icmp .lt 19, 3) := by decide +kernel
theorem dX6_header_144 : decode cX6_header 144 = .ok (.aload_n 0, 1) := by decide +kernel
theorem dX6_header_145 : decode cX6_header 145 = .ok (.getfield 31, 3) := by decide +kernel
theorem dX6_header_148 : decode cX6_header 148 = .ok (.iconst 2, 1) := by decide +kernel
theorem dX6_header_149 : decode cX6_header 149 = .ok (.aload_n 0, 1) := by decide +kernel
theorem dX6_header_150 : decode cX6_header 150 = .ok (.getfield 31, 3) := by decide +kernel
theorem dX6_header_153 : decode cX6_header 153 = .ok (.getfield 81, 3) := by decide +kernel
theorem dX6_header_156 : decode cX6_header 156 = .ok (.invokevirtual 84, 3) := by decide +kernel
theorem dX6_header_159 : decode cX6_header 159 = .ok (.return_, 1) := by decide +kernel
theorem dX6_header_160 : decode cX6_header 160 = .ok (.aload_n 0, 1) := by decide +kernel
theorem dX6_header_161 : decode cX6_header 161 = .ok (.getfield 20, 3) := by decide +kernel
theorem dX6_header_164 : decode cX6_header 164 = .ok (.getfield 106, 3) := by decide +kernel
theorem dX6_header_167 : decode cX6_header 167 = .ok (.aload_n 0, 1) := by decide +kernel
theorem dX6_header_168 : decode cX6_header 168 = .ok (.getfield 20, 3) := by decide +kernel
theorem dX6_header_171 : decode cX6_header 171 = .ok (.getfield 103, 3) := by decide +kernel
theorem dX6_header_174 : decode cX6_header 174 = .ok (.aload_n 0, 1) := by decide +kernel
theorem dX6_header_175 : decode cX6_header 175 = .ok (.getfield 31, 3) := by decide +kernel
theorem dX6_header_178 : decode cX6_header 178 = .ok (.getfield 91, 3) := by decide +kernel
theorem dX6_header_181 : decode cX6_header 181 = .ok (.lastore, 1) := by decide +kernel
theorem dX6_header_182 : decode cX6_header 182 = .ok (.aload_n 0, 1) := by decide +kernel
theorem dX6_header_183 : decode cX6_header 183 = .ok (.getfield 20, 3) := by decide +kernel
theorem dX6_header_186 : decode cX6_header 186 = .ok (.dup, 1) := by decide +kernel
theorem dX6_header_187 : decode cX6_header 187 = .ok (.getfield 103, 3) := by decide +kernel
theorem dX6_header_190 : decode cX6_header 190 = .ok (.iconst 1, 1) := by decide +kernel
theorem dX6_header_191 : decode cX6_header 191 = .ok (.iadd, 1) := by decide +kernel
theorem dX6_header_192 : decode cX6_header 192 = .ok (.putfield 103, 3) := by decide +kernel
theorem dX6_header_195 : decode cX6_header 195 = .ok (.aload_n 0, 1) := by decide +kernel
theorem dX6_header_196 : decode cX6_header 196 = .ok (.getfield 31, 3) := by decide +kernel
theorem dX6_header_199 : decode cX6_header 199 = .ok (.invokevirtual 88, 3) := by decide +kernel
theorem dX6_header_202 : decode cX6_header 202 = .ok (.iinc 1 1, 3) := by decide +kernel
theorem dX6_header_205 : decode cX6_header 205 = .ok (.goto (-121), 3) := by decide +kernel
theorem dX6_header_208 : decode cX6_header 208 = .ok (.aload_n 0, 1) := by decide +kernel
theorem dX6_header_209 : decode cX6_header 209 = .ok (.bipush 61, 2) := by decide +kernel
theorem dX6_header_211 : decode cX6_header 211 = .ok (.invokevirtual 109, 3) := by decide +kernel
theorem dX6_header_214 : decode cX6_header 214 = .ok (.return_, 1) := by decide +kernel
theorem dX6_expect_0 : decode cX6_expect 0 = .ok (.aload_n 0, 1) := by decide +kernel
theorem dX6_expect_1 : decode cX6_expect 1 = .ok (.getfield 31, 3) := by decide +kernel
theorem dX6_expect_4 : decode cX6_expect 4 = .ok (.getfield 66, 3) := by decide +kernel
theorem dX6_expect_7 : decode cX6_expect 7 = .ok (.iload_n 1, 1) := by decide +kernel
theorem dX6_expect_8 : decode cX6_expect 8 = .ok (.if_icmp .eq 21, 3) := by decide +kernel
theorem dX6_expect_11 : decode cX6_expect 11 = .ok (.aload_n 0, 1) := by decide +kernel
theorem dX6_expect_12 : decode cX6_expect 12 = .ok (.getfield 31, 3) := by decide +kernel
theorem dX6_expect_15 : decode cX6_expect 15 = .ok (.iconst 1, 1) := by decide +kernel
theorem dX6_expect_16 : decode cX6_expect 16 = .ok (.aload_n 0, 1) := by decide +kernel
theorem dX6_expect_17 : decode cX6_expect 17 = .ok (.getfield 31, 3) := by decide +kernel
theorem dX6_expect_20 : decode cX6_expect 20 = .ok (.getfield 81, 3) := by decide +kernel
theorem dX6_expect_23 : decode cX6_expect 23 = .ok (.invokevirtual 84, 3) := by decide +kernel
theorem dX6_expect_26 : decode cX6_expect 26 = .ok (.goto 10, 3) := by decide +kernel
theorem dX6_expect_29 : decode cX6_expect 29 = .ok (.aload_n 0, 1) := by decide +kernel
theorem dX6_expect_30 : decode cX6_expect 30 = .ok (.getfield 31, 3) := by decide +kernel
theorem dX6_expect_33 : decode cX6_expect 33 = .ok (.invokevirtual 88, 3) := by decide +kernel
theorem dX6_expect_36 : decode cX6_expect 36 = .ok (.return_, 1) := by decide +kernel
theorem dX6_functionOf_0 : decode cX6_functionOf 0 = .ok (.iconst 0, 1) := by decide +kernel
theorem dX6_functionOf_1 : decode cX6_functionOf 1 = .ok (.istore_n 3, 1) := by decide +kernel
theorem dX6_functionOf_2 : decode cX6_functionOf 2 = .ok (.iload_n 3, 1) := by decide +kernel
theorem dX6_functionOf_3 : decode cX6_functionOf 3 = .ok (.bipush 21, 2) := by decide +kernel
theorem dX6_functionOf_5 : decode cX6_functionOf 5 = .ok (.if_icmp .ge 22, 3) := by decide +kernel
theorem dX6_functionOf_8 : decode cX6_functionOf 8 = .ok (.aload_n 0, 1) := by decide +kernel
theorem dX6_functionOf_9 : decode cX6_functionOf 9 = .ok (.getfield 11, 3) := by decide +kernel
theorem dX6_functionOf_12 : decode cX6_functionOf 12 = .ok (.iload_n 3, 1) := by decide +kernel
theorem dX6_functionOf_13 : decode cX6_functionOf 13 = .ok (.laload, 1) := by decide +kernel
theorem dX6_functionOf_14 : decode cX6_functionOf 14 = .ok (.lload_n 1, 1) := by decide +kernel
theorem dX6_functionOf_15 : decode cX6_functionOf 15 = .ok (.lcmp, 1) := by decide +kernel
theorem dX6_functionOf_16 : decode cX6_functionOf 16 = .ok (.ifCond .ne 5, 3) := by decide +kernel
theorem dX6_functionOf_19 : decode cX6_functionOf 19 = .ok (.iload_n 3, 1) := by decide +kernel
theorem dX6_functionOf_20 : decode cX6_functionOf 20 = .ok (.ireturn, 1) := by decide +kernel
theorem dX6_functionOf_21 : decode cX6_functionOf 21 = .ok (.iinc 3 1, 3) := by decide +kernel
theorem dX6_functionOf_24 : decode cX6_functionOf 24 = .ok (.goto (-22), 3) := by decide +kernel
theorem dX6_functionOf_27 : decode cX6_functionOf 27 = .ok (.iconst (-1), 1) := by decide +kernel
theorem dX6_functionOf_28 : decode cX6_functionOf 28 = .ok (.ireturn, 1) := by decide +kernel
theorem dX6_kindOf_0 : decode cX6_kindOf 0 = .ok (.aload_n 0, 1) := by decide +kernel
theorem dX6_kindOf_1 : decode cX6_kindOf 1 = .ok (.aload_n 0, 1) := by decide +kernel
theorem dX6_kindOf_2 : decode cX6_kindOf 2 = .ok (.getfield 20, 3) := by decide +kernel
theorem dX6_kindOf_5 : decode cX6_kindOf 5 = .ok (.lload_n 1, 1) := by decide +kernel
theorem dX6_kindOf_6 : decode cX6_kindOf 6 = .ok (.invokevirtual 113, 3) := by decide +kernel
theorem dX6_kindOf_9 : decode cX6_kindOf 9 = .ok (.putfield 24, 3) := by decide +kernel
theorem dX6_kindOf_12 : decode cX6_kindOf 12 = .ok (.aload_n 0, 1) := by decide +kernel
theorem dX6_kindOf_13 : decode cX6_kindOf 13 = .ok (.getfield 24, 3) := by decide +kernel
theorem dX6_kindOf_16 : decode cX6_kindOf 16 = .ok (.ifCond .lt 5, 3) := by decide +kernel
theorem dX6_kindOf_19 : decode cX6_kindOf 19 = .ok (.iconst 1, 1) := by decide +kernel
theorem dX6_kindOf_20 : decode cX6_kindOf 20 = .ok (.ireturn, 1) := by decide +kernel
theorem dX6_kindOf_21 : decode cX6_kindOf 21 = .ok (.aload_n 0, 1) := by decide +kernel
theorem dX6_kindOf_22 : decode cX6_kindOf 22 = .ok (.aload_n 0, 1) := by decide +kernel
theorem dX6_kindOf_23 : decode cX6_kindOf 23 = .ok (.lload_n 1, 1) := by decide +kernel
theorem dX6_kindOf_24 : decode cX6_kindOf 24 = .ok (.invokevirtual 95, 3) := by decide +kernel
theorem dX6_kindOf_27 : decode cX6_kindOf 27 = .ok (.putfield 24, 3) := by decide +kernel
theorem dX6_kindOf_30 : decode cX6_kindOf 30 = .ok (.aload_n 0, 1) := by decide +kernel
theorem dX6_kindOf_31 : decode cX6_kindOf 31 = .ok (.getfield 24, 3) := by decide +kernel
theorem dX6_kindOf_34 : decode cX6_kindOf 34 = .ok (.ifCond .lt 5, 3) := by decide +kernel
theorem dX6_kindOf_37 : decode cX6_kindOf 37 = .ok (.iconst 2, 1) := by decide +kernel
theorem dX6_kindOf_38 : decode cX6_kindOf 38 = .ok (.ireturn, 1) := by decide +kernel
theorem dX6_kindOf_39 : decode cX6_kindOf 39 = .ok (.iconst 0, 1) := by decide +kernel
theorem dX6_kindOf_40 : decode cX6_kindOf 40 = .ok (.istore_n 3, 1) := by decide +kernel
theorem dX6_kindOf_41 : decode cX6_kindOf 41 = .ok (.iload_n 3, 1) := by decide +kernel
theorem dX6_kindOf_42 : decode cX6_kindOf 42 = .ok (.aload_n 0, 1) := by decide +kernel
theorem dX6_kindOf_43 : decode cX6_kindOf 43 = .ok (.getfield 35, 3) := by decide +kernel
theorem dX6_kindOf_46 : decode cX6_kindOf 46 = .ok (.invokevirtual 116, 3) := by decide +kernel
theorem dX6_kindOf_49 : decode cX6_kindOf 49 = .ok (.if_icmp .ge 59, 3) := by decide +kernel
theorem dX6_kindOf_52 : decode cX6_kindOf 52 = .ok (.aload_n 0, 1) := by decide +kernel
theorem dX6_kindOf_53 : decode cX6_kindOf 53 = .ok (.getfield 35, 3) := by decide +kernel
theorem dX6_kindOf_56 : decode cX6_kindOf 56 = .ok (.iload_n 3, 1) := by decide +kernel
theorem dX6_kindOf_57 : decode cX6_kindOf 57 = .ok (.invokevirtual 121, 3) := by decide +kernel
theorem dX6_kindOf_60 : decode cX6_kindOf 60 = .ok (.checkcast 15, 3) := by decide +kernel
theorem dX6_kindOf_63 : decode cX6_kindOf 63 = .ok (.getfield 125, 3) := by decide +kernel
theorem dX6_kindOf_66 : decode cX6_kindOf 66 = .ok (.lload_n 1, 1) := by decide +kernel
theorem dX6_kindOf_67 : decode cX6_kindOf 67 = .ok (.lcmp, 1) := by decide +kernel
theorem dX6_kindOf_68 : decode cX6_kindOf 68 = .ok (.ifCond .ne 34, 3) := by decide +kernel
theorem dX6_kindOf_71 : decode cX6_kindOf 71 = .ok (.aload_n 0, 1) := by decide +kernel
theorem dX6_kindOf_72 : decode cX6_kindOf 72 = .ok (.aload_n 0, 1) := by decide +kernel
theorem dX6_kindOf_73 : decode cX6_kindOf 73 = .ok (.getfield 35, 3) := by decide +kernel
theorem dX6_kindOf_76 : decode cX6_kindOf 76 = .ok (.iload_n 3, 1) := by decide +kernel
theorem dX6_kindOf_77 : decode cX6_kindOf 77 = .ok (.invokevirtual 121, 3) := by decide +kernel
theorem dX6_kindOf_80 : decode cX6_kindOf 80 = .ok (.checkcast 15, 3) := by decide +kernel
theorem dX6_kindOf_83 : decode cX6_kindOf 83 = .ok (.putfield 28, 3) := by decide +kernel
theorem dX6_kindOf_86 : decode cX6_kindOf 86 = .ok (.aload_n 0, 1) := by decide +kernel
theorem dX6_kindOf_87 : decode cX6_kindOf 87 = .ok (.getfield 28, 3) := by decide +kernel
theorem dX6_kindOf_90 : decode cX6_kindOf 90 = .ok (.getfield 103, 3) := by decide +kernel
theorem dX6_kindOf_93 : decode cX6_kindOf 93 = .ok (.ifCond .ne 7, 3) := by decide +kernel
theorem dX6_kindOf_96 : decode cX6_kindOf 96 = .ok (.iconst 3, 1) := by decide +kernel
theorem dX6_kindOf_97 : decode cX6_kindOf 97 = .ok (.goto 4, 3) := by decide +kernel
theorem dX6_kindOf_100 : decode cX6_kindOf 100 = .ok (.iconst 4, 1) := by decide +kernel
theorem dX6_kindOf_101 : decode cX6_kindOf 101 = .ok (.ireturn, 1) := by decide +kernel
theorem dX6_kindOf_102 : decode cX6_kindOf 102 = .ok (.iinc 3 1, 3) := by decide +kernel
theorem dX6_kindOf_105 : decode cX6_kindOf 105 = .ok (.goto (-64), 3) := by decide +kernel
theorem dX6_kindOf_108 : decode cX6_kindOf 108 = .ok (.iconst 0, 1) := by decide +kernel
theorem dX6_kindOf_109 : decode cX6_kindOf 109 = .ok (.ireturn, 1) := by decide +kernel
theorem dX6_exp_15 : decode cX6_exp 15 = .ok (.aload_n 0, 1) := by decide +kernel
theorem dX6_exp_16 : decode cX6_exp 16 = .ok (.getfield 31, 3) := by decide +kernel
theorem dX6_exp_19 : decode cX6_exp 19 = .ok (.getfield 66, 3) := by decide +kernel
theorem dX6_exp_22 : decode cX6_exp 22 = .ok (.bipush 38, 2) := by decide +kernel
theorem dX6_exp_24 : decode cX6_exp 24 = .ok (.if_icmp .eq 5, 3) := by decide +kernel
theorem dX6_exp_29 : decode cX6_exp 29 = .ok (.new 129, 3) := by decide +kernel
theorem dX6_exp_32 : decode cX6_exp 32 = .ok (.dup, 1) := by decide +kernel
theorem dX6_exp_33 : decode cX6_exp 33 = .ok (.bipush 8, 2) := by decide +kernel
theorem dX6_exp_35 : decode cX6_exp 35 = .ok (.aload_n 0, 1) := by decide +kernel
theorem dX6_exp_36 : decode cX6_exp 36 = .ok (.getfield 31, 3) := by decide +kernel
theorem dX6_exp_39 : decode cX6_exp 39 = .ok (.getfield 81, 3) := by decide +kernel
theorem dX6_exp_42 : decode cX6_exp 42 = .ok (.invokespecial 131, 3) := by decide +kernel
theorem dX6_exp_45 : decode cX6_exp 45 = .ok (.astore_n 2, 1) := by decide +kernel
theorem dX6_exp_46 : decode cX6_exp 46 = .ok (.aload_n 2, 1) := by decide +kernel
theorem dX6_exp_47 : decode cX6_exp 47 = .ok (.iconst 1, 1) := by decide +kernel
theorem dX6_exp_48 : decode cX6_exp 48 = .ok (.putfield 133, 3) := by decide +kernel
theorem dX6_exp_51 : decode cX6_exp 51 = .ok (.aload_n 2, 1) := by decide +kernel
theorem dX6_exp_52 : decode cX6_exp 52 = .ok (.iload_n 1, 1) := by decide +kernel
theorem dX6_exp_53 : decode cX6_exp 53 = .ok (.invokevirtual 137, 3) := by decide +kernel
theorem dX6_exp_56 : decode cX6_exp 56 = .ok (.pop, 1) := by decide +kernel
theorem dX6_exp_57 : decode cX6_exp 57 = .ok (.iconst 0, 1) := by decide +kernel
theorem dX6_exp_58 : decode cX6_exp 58 = .ok (.istore_n 3, 1) := by decide +kernel
theorem dX6_exp_59 : decode cX6_exp 59 = .ok (.iload_n 3, 1) := by decide +kernel
theorem dX6_exp_60 : decode cX6_exp 60 = .ok (.sipush 2000, 3) := by decide +kernel
theorem dX6_exp_63 : decode cX6_exp 63 = .ok (.if_icmp .ge 47, 3) := by decide +kernel
theorem dX6_exp_66 : decode cX6_exp 66 = .ok (.aload_n 0, 1) := by decide +kernel
theorem dX6_exp_67 : decode cX6_exp 67 = .ok (.getfield 31, 3) := by decide +kernel
theorem dX6_exp_70 : decode cX6_exp 70 = .ok (.getfield 72, 3) := by decide +kernel
theorem dX6_exp_73 : decode cX6_exp 73 = .ok (.ifCond .ne 37, 3) := by decide +kernel
theorem dX6_exp_76 : decode cX6_exp 76 = .ok (.aload_n 0, 1) := by decide +kernel
theorem dX6_exp_77 : decode cX6_exp 77 = .ok (.getfield 31, 3) := by decide +kernel
theorem dX6_exp_80 : decode cX6_exp 80 = .ok (.getfield 66, 3) := by decide +kernel
theorem dX6_exp_83 : decode cX6_exp 83 = .ok (.bipush 38, 2) := by decide +kernel
theorem dX6_exp_85 : decode cX6_exp 85 = .ok (.if_icmp .ne 25, 3) := by decide +kernel
theorem dX6_exp_88 : decode cX6_exp 88 = .ok (.aload_n 0, 1) := by decide +kernel
theorem dX6_exp_89 : decode cX6_exp 89 = .ok (.getfield 31, 3) := by decide +kernel
theorem dX6_exp_92 : decode cX6_exp 92 = .ok (.invokevirtual 88, 3) := by decide +kernel
theorem dX6_exp_95 : decode cX6_exp 95 = .ok (.aload_n 2, 1) := by decide +kernel
theorem dX6_exp_96 : decode cX6_exp 96 = .ok (.aload_n 0, 1) := by decide +kernel
theorem dX6_exp_97 : decode cX6_exp 97 = .ok (.invokevirtual 126, 3) := by decide +kernel
theorem dX6_exp_100 : decode cX6_exp 100 = .ok (.invokevirtual 137, 3) := by decide +kernel
theorem dX6_exp_103 : decode cX6_exp 103 = .ok (.pop, 1) := by decide +kernel
theorem dX6_exp_104 : decode cX6_exp 104 = .ok (.iinc 3 1, 3) := by decide +kernel
theorem dX6_exp_107 : decode cX6_exp 107 = .ok (.goto (-48), 3) := by decide +kernel
theorem dX6_exp_110 : decode cX6_exp 110 = .ok (.aload_n 0, 1) := by decide +kernel
theorem dX6_exp_111 : decode cX6_exp 111 = .ok (.getfield 20, 3) := by decide +kernel
theorem dX6_exp_114 : decode cX6_exp 114 = .ok (.aload_n 2, 1) := by decide +kernel
theorem dX6_exp_115 : decode cX6_exp 115 = .ok (.invokevirtual 141, 3) := by decide +kernel
theorem dX6_exp_118 : decode cX6_exp 118 = .ok (.ireturn, 1) := by decide +kernel
theorem dX6_cat_15 : decode cX6_cat 15 = .ok (.aload_n 0, 1) := by decide +kernel
theorem dX6_cat_16 : decode cX6_cat 16 = .ok (.getfield 31, 3) := by decide +kernel
theorem dX6_cat_19 : decode cX6_cat 19 = .ok (.getfield 66, 3) := by decide +kernel
theorem dX6_cat_22 : decode cX6_cat 22 = .ok (.bipush 59, 2) := by decide +kernel
theorem dX6_cat_24 : decode cX6_cat 24 = .ok (.if_icmp .eq 5, 3) := by decide +kernel
theorem dX6_cat_29 : decode cX6_cat 29 = .ok (.new 129, 3) := by decide +kernel
theorem dX6_cat_32 : decode cX6_cat 32 = .ok (.dup, 1) := by decide +kernel
theorem dX6_cat_33 : decode cX6_cat 33 = .ok (.iconst 5, 1) := by decide +kernel
theorem dX6_cat_34 : decode cX6_cat 34 = .ok (.aload_n 0, 1) := by decide +kernel
theorem dX6_cat_35 : decode cX6_cat 35 = .ok (.getfield 31, 3) := by decide +kernel
theorem dX6_cat_38 : decode cX6_cat 38 = .ok (.getfield 81, 3) := by decide +kernel
theorem dX6_cat_41 : decode cX6_cat 41 = .ok (.invokespecial 131, 3) := by decide +kernel
theorem dX6_cat_44 : decode cX6_cat 44 = .ok (.astore_n 2, 1) := by decide +kernel
theorem dX6_cat_45 : decode cX6_cat 45 = .ok (.aload_n 2, 1) := by decide +kernel
theorem dX6_cat_46 : decode cX6_cat 46 = .ok (.iconst 1, 1) := by decide +kernel
theorem dX6_cat_47 : decode cX6_cat 47 = .ok (.putfield 133, 3) := by decide +kernel
theorem dX6_cat_50 : decode cX6_cat 50 = .ok (.aload_n 2, 1) := by decide +kernel
theorem dX6_cat_51 : decode cX6_cat 51 = .ok (.iload_n 1, 1) := by decide +kernel
theorem dX6_cat_52 : decode cX6_cat 52 = .ok (.iconst 1, 1) := by decide +kernel
theorem dX6_cat_53 : decode cX6_cat 53 = .ok (.iconst 1, 1) := by decide +kernel
theorem dX6_cat_54 : decode cX6_cat 54 = .ok (.invokevirtual 148, 3) := by decide +kernel
theorem dX6_cat_57 : decode cX6_cat 57 = .ok (.iconst 0, 1) := by decide +kernel
theorem dX6_cat_58 : decode cX6_cat 58 = .ok (.istore_n 3, 1) := by decide +kernel
theorem dX6_cat_59 : decode cX6_cat 59 = .ok (.iload_n 3, 1) := by decide +kernel
theorem dX6_cat_60 : decode cX6_cat 60 = .ok (.sipush 2000, 3) := by decide +kernel
theorem dX6_cat_63 : decode cX6_cat 63 = .ok (.if_icmp .ge 48, 3) := by decide +kernel
theorem dX6_cat_66 : decode cX6_cat 66 = .ok (.aload_n 0, 1) := by decide +kernel
theorem dX6_cat_67 : decode cX6_cat 67 = .ok (.getfield 31, 3) := by decide +kernel
theorem dX6_cat_70 : decode cX6_cat 70 = .ok (.getfield 72, 3) := by decide +kernel
theorem dX6_cat_73 : decode cX6_cat 73 = .ok (.ifCond .ne 38, 3) := by decide +kernel
theorem dX6_cat_76 : decode cX6_cat 76 = .ok (.aload_n 0, 1) := by decide +kernel
theorem dX6_cat_77 : decode cX6_cat 77 = .ok (.getfield 31, 3) := by decide +kernel
theorem dX6_cat_80 : decode cX6_cat 80 = .ok (.getfield 66, 3) := by decide +kernel
theorem dX6_cat_83 : decode cX6_cat 83 = .ok (.bipush 59, 2) := by decide +kernel
theorem dX6_cat_85 : decode cX6_cat 85 = .ok (.if_icmp .ne 26, 3) := by decide +kernel
theorem dX6_cat_88 : decode cX6_cat 88 = .ok (.aload_n 0, 1) := by decide +kernel
theorem dX6_cat_89 : decode cX6_cat 89 = .ok (.getfield 31, 3) := by decide +kernel
theorem dX6_cat_92 : decode cX6_cat 92 = .ok (.invokevirtual 88, 3) := by decide +kernel
theorem dX6_cat_95 : decode cX6_cat 95 = .ok (.aload_n 2, 1) := by decide +kernel
theorem dX6_cat_96 : decode cX6_cat 96 = .ok (.aload_n 0, 1) := by decide +kernel
theorem dX6_cat_97 : decode cX6_cat 97 = .ok (.invokevirtual 145, 3) := by decide +kernel
theorem dX6_cat_100 : decode cX6_cat 100 = .ok (.iconst 1, 1) := by decide +kernel
theorem dX6_cat_101 : decode cX6_cat 101 = .ok (.iconst 1, 1) := by decide +kernel
theorem dX6_cat_102 : decode cX6_cat 102 = .ok (.invokevirtual 148, 3) := by decide +kernel
theorem dX6_cat_105 : decode cX6_cat 105 = .ok (.iinc 3 1, 3) := by decide +kernel
theorem dX6_cat_108 : decode cX6_cat 108 = .ok (.goto (-49), 3) := by decide +kernel
theorem dX6_cat_111 : decode cX6_cat 111 = .ok (.aload_n 0, 1) := by decide +kernel
theorem dX6_cat_112 : decode cX6_cat 112 = .ok (.getfield 20, 3) := by decide +kernel
theorem dX6_cat_115 : decode cX6_cat 115 = .ok (.aload_n 2, 1) := by decide +kernel
theorem dX6_cat_116 : decode cX6_cat 116 = .ok (.invokevirtual 141, 3) := by decide +kernel
theorem dX6_cat_119 : decode cX6_cat 119 = .ok (.ireturn, 1) := by decide +kernel
theorem dX6_sum_24 : decode cX6_sum 24 = .ok (.aload_n 0, 1) := by decide +kernel
theorem dX6_sum_25 : decode cX6_sum 25 = .ok (.getfield 31, 3) := by decide +kernel
theorem dX6_sum_28 : decode cX6_sum 28 = .ok (.getfield 66, 3) := by decide +kernel
theorem dX6_sum_31 : decode cX6_sum 31 = .ok (.invokestatic 155, 3) := by decide +kernel
theorem dX6_sum_34 : decode cX6_sum 34 = .ok (.ifCond .eq 63, 3) := by decide +kernel
theorem dX6_sum_37 : decode cX6_sum 37 = .ok (.new 129, 3) := by decide +kernel
theorem dX6_sum_40 : decode cX6_sum 40 = .ok (.dup, 1) := by decide +kernel
theorem dX6_sum_41 : decode cX6_sum 41 = .ok (.bipush 21, 2) := by decide +kernel
theorem dX6_sum_43 : decode cX6_sum 43 = .ok (.aload_n 0, 1) := by decide +kernel
theorem dX6_sum_44 : decode cX6_sum 44 = .ok (.getfield 31, 3) := by decide +kernel
theorem dX6_sum_47 : decode cX6_sum 47 = .ok (.getfield 81, 3) := by decide +kernel
theorem dX6_sum_50 : decode cX6_sum 50 = .ok (.aload_n 0, 1) := by decide +kernel
theorem dX6_sum_51 : decode cX6_sum 51 = .ok (.getfield 31, 3) := by decide +kernel
theorem dX6_sum_54 : decode cX6_sum 54 = .ok (.getfield 66, 3) := by decide +kernel
theorem dX6_sum_57 : decode cX6_sum 57 = .ok (.iconst 0, 1) := by decide +kernel
theorem dX6_sum_58 : decode cX6_sum 58 = .ok (.invokespecial 159, 3) := by decide +kernel
theorem dX6_sum_61 : decode cX6_sum 61 = .ok (.astore_n 3, 1) := by decide +kernel
theorem dX6_sum_62 : decode cX6_sum 62 = .ok (.aload_n 0, 1) := by decide +kernel
theorem dX6_sum_63 : decode cX6_sum 63 = .ok (.getfield 31, 3) := by decide +kernel
theorem dX6_sum_66 : decode cX6_sum 66 = .ok (.invokevirtual 88, 3) := by decide +kernel
theorem dX6_sum_69 : decode cX6_sum 69 = .ok (.aload_n 3, 1) := by decide +kernel
theorem dX6_sum_70 : decode cX6_sum 70 = .ok (.iload_n 1, 1) := by decide +kernel
theorem dX6_sum_71 : decode cX6_sum 71 = .ok (.invokevirtual 137, 3) := by decide +kernel
theorem dX6_sum_74 : decode cX6_sum 74 = .ok (.aload_n 0, 1) := by decide +kernel
theorem dX6_sum_75 : decode cX6_sum 75 = .ok (.invokevirtual 152, 3) := by decide +kernel
theorem dX6_sum_78 : decode cX6_sum 78 = .ok (.invokevirtual 137, 3) := by decide +kernel
theorem dX6_sum_81 : decode cX6_sum 81 = .ok (.pop, 1) := by decide +kernel
theorem dX6_sum_82 : decode cX6_sum 82 = .ok (.aload_n 0, 1) := by decide +kernel
theorem dX6_sum_83 : decode cX6_sum 83 = .ok (.getfield 20, 3) := by decide +kernel
theorem dX6_sum_86 : decode cX6_sum 86 = .ok (.aload_n 3, 1) := by decide +kernel
theorem dX6_sum_87 : decode cX6_sum 87 = .ok (.invokevirtual 141, 3) := by decide +kernel
theorem dX6_sum_90 : decode cX6_sum 90 = .ok (.istore_n 1, 1) := by decide +kernel
theorem dX6_sum_91 : decode cX6_sum 91 = .ok (.iinc 2 1, 3) := by decide +kernel
theorem dX6_sum_94 : decode cX6_sum 94 = .ok (.goto (-87), 3) := by decide +kernel
theorem dX6_app_16 : decode cX6_app 16 = .ok (.aload_n 0, 1) := by decide +kernel
theorem dX6_app_17 : decode cX6_app 17 = .ok (.aload_n 0, 1) := by decide +kernel
theorem dX6_app_18 : decode cX6_app 18 = .ok (.getfield 31, 3) := by decide +kernel
theorem dX6_app_21 : decode cX6_app 21 = .ok (.getfield 91, 3) := by decide +kernel
theorem dX6_app_24 : decode cX6_app 24 = .ok (.invokevirtual 165, 3) := by decide +kernel
theorem dX6_app_27 : decode cX6_app 27 = .ok (.istore_n 1, 1) := by decide +kernel
theorem dX6_app_28 : decode cX6_app 28 = .ok (.iload_n 1, 1) := by decide +kernel
theorem dX6_app_29 : decode cX6_app 29 = .ok (.iconst 2, 1) := by decide +kernel
theorem dX6_app_30 : decode cX6_app 30 = .ok (.if_icmp .eq 13, 3) := by decide +kernel
theorem dX6_app_33 : decode cX6_app 33 = .ok (.iload_n 1, 1) := by decide +kernel
theorem dX6_app_34 : decode cX6_app 34 = .ok (.iconst 4, 1) := by decide +kernel
theorem dX6_app_35 : decode cX6_app 35 = .ok (.if_icmp .eq 8, 3) := by decide +kernel
theorem dX6_app_38 : decode cX6_app 38 = .ok (.aload_n 0, 1) := by decide +kernel
theorem dX6_app_39 : decode cX6_app 39 = .ok (.invokevirtual 162, 3) := by decide +kernel
theorem dX6_app_42 : decode cX6_app 42 = .ok (.ireturn, 1) := by decide +kernel
theorem dX6_app_43 : decode cX6_app 43 = .ok (.aload_n 0, 1) := by decide +kernel
theorem dX6_app_44 : decode cX6_app 44 = .ok (.iload_n 1, 1) := by decide +kernel
theorem dX6_app_45 : decode cX6_app 45 = .ok (.invokevirtual 168, 3) := by decide +kernel
theorem dX6_app_48 : decode cX6_app 48 = .ok (.astore_n 2, 1) := by decide +kernel
theorem dX6_app_49 : decode cX6_app 49 = .ok (.aload_n 0, 1) := by decide +kernel
theorem dX6_app_50 : decode cX6_app 50 = .ok (.getfield 31, 3) := by decide +kernel
theorem dX6_app_53 : decode cX6_app 53 = .ok (.getfield 72, 3) := by decide +kernel
theorem dX6_app_56 : decode cX6_app 56 = .ok (.ifCond .ne 10, 3) := by decide +kernel
theorem dX6_app_59 : decode cX6_app 59 = .ok (.aload_n 0, 1) := by decide +kernel
theorem dX6_app_60 : decode cX6_app 60 = .ok (.invokevirtual 162, 3) := by decide +kernel
theorem dX6_app_63 : decode cX6_app 63 = .ok (.goto 4, 3) := by decide +kernel
theorem dX6_app_66 : decode cX6_app 66 = .ok (.iconst 0, 1) := by decide +kernel
theorem dX6_app_67 : decode cX6_app 67 = .ok (.istore_n 3, 1) := by decide +kernel
theorem dX6_app_68 : decode cX6_app 68 = .ok (.aload_n 0, 1) := by decide +kernel
theorem dX6_app_69 : decode cX6_app 69 = .ok (.getfield 31, 3) := by decide +kernel
theorem dX6_app_72 : decode cX6_app 72 = .ok (.getfield 72, 3) := by decide +kernel
theorem dX6_app_75 : decode cX6_app 75 = .ok (.ifCond .ne 15, 3) := by decide +kernel
theorem dX6_app_78 : decode cX6_app 78 = .ok (.aload_n 2, 1) := by decide +kernel
theorem dX6_app_79 : decode cX6_app 79 = .ok (.aload_n 0, 1) := by decide +kernel
theorem dX6_app_80 : decode cX6_app 80 = .ok (.getfield 20, 3) := by decide +kernel
theorem dX6_app_83 : decode cX6_app 83 = .ok (.iload_n 3, 1) := by decide +kernel
theorem dX6_app_84 : decode cX6_app 84 = .ok (.invokevirtual 172, 3) := by decide +kernel
theorem dX6_app_87 : decode cX6_app 87 = .ok (.goto 4, 3) := by decide +kernel
theorem dX6_app_90 : decode cX6_app 90 = .ok (.iconst 0, 1) := by decide +kernel
theorem dX6_app_91 : decode cX6_app 91 = .ok (.ireturn, 1) := by decide +kernel
theorem dX6_arg_11 : decode cX6_arg 11 = .ok (.aload_n 0, 1) := by decide +kernel
theorem dX6_arg_12 : decode cX6_arg 12 = .ok (.invokevirtual 178, 3) := by decide +kernel
theorem dX6_arg_15 : decode cX6_arg 15 = .ok (.ireturn, 1) := by decide +kernel
theorem dX6_arg_27 : decode cX6_arg 27 = .ok (.iconst 1, 1) := by decide +kernel
theorem dX6_arg_28 : decode cX6_arg 28 = .ok (.goto 4, 3) := by decide +kernel
theorem dX6_arg_66 : decode cX6_arg 66 = .ok (.aload_n 0, 1) := by decide +kernel
theorem dX6_arg_67 : decode cX6_arg 67 = .ok (.getfield 31, 3) := by decide +kernel
theorem dX6_arg_70 : decode cX6_arg 70 = .ok (.aload_n 0, 1) := by decide +kernel
theorem dX6_arg_71 : decode cX6_arg 71 = .ok (.getfield 31, 3) := by decide +kernel
theorem dX6_arg_74 : decode cX6_arg 74 = .ok (.getfield 81, 3) := by decide +kernel
theorem dX6_arg_77 : decode cX6_arg 77 = .ok (.invokevirtual 181, 3) := by decide +kernel
theorem dX6_arg_80 : decode cX6_arg 80 = .ok (.ifCond .ne 5, 3) := by decide +kernel
theorem dX6_arg_83 : decode cX6_arg 83 = .ok (.iconst 0, 1) := by decide +kernel
theorem dX6_arg_84 : decode cX6_arg 84 = .ok (.ireturn, 1) := by decide +kernel
theorem dX6_arg_85 : decode cX6_arg 85 = .ok (.iconst 0, 1) := by decide +kernel
theorem dX6_arg_86 : decode cX6_arg 86 = .ok (.istore_n 2, 1) := by decide +kernel
theorem dX6_arg_87 : decode cX6_arg 87 = .ok (.iload_n 1, 1) := by decide +kernel
theorem dX6_arg_88 : decode cX6_arg 88 = .ok (.ifCond .eq 55, 3) := by decide +kernel
theorem dX6_arg_91 : decode cX6_arg 91 = .ok (.aload_n 0, 1) := by decide +kernel
theorem dX6_arg_92 : decode cX6_arg 92 = .ok (.getfield 44, 3) := by decide +kernel
theorem dX6_arg_95 : decode cX6_arg 95 = .ok (.aload_n 0, 1) := by decide +kernel
theorem dX6_arg_96 : decode cX6_arg 96 = .ok (.getfield 20, 3) := by decide +kernel
theorem dX6_arg_99 : decode cX6_arg 99 = .ok (.aload_n 0, 1) := by decide +kernel
theorem dX6_arg_100 : decode cX6_arg 100 = .ok (.getfield 31, 3) := by decide +kernel
