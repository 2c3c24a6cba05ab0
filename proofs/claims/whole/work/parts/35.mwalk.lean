/-! WALKED: Mod_work. Printed by wip/whole/build.py. -/
abbrev b_Mod_work : ByteArray := prog_10_method_22_code
def y_Mod_work : MethodName := ⟨"DotConsoleModel", "work", "(IIZ)I"⟩
theorem d_Mod_work_0 : decode b_Mod_work 0 = .ok (.bipush 48, 2) := by decide +kernel
theorem d_Mod_work_2 : decode b_Mod_work 2 = .ok (.iload_n 1, 1) := by decide +kernel
theorem d_Mod_work_3 : decode b_Mod_work 3 = .ok (.imul, 1) := by decide +kernel
theorem d_Mod_work_4 : decode b_Mod_work 4 = .ok (.aload_n 0, 1) := by decide +kernel
theorem d_Mod_work_5 : decode b_Mod_work 5 = .ok (.getfield 23, 3) := by decide +kernel
theorem d_Mod_work_8 : decode b_Mod_work 8 = .ok (.iload_n 1, 1) := by decide +kernel
theorem d_Mod_work_9 : decode b_Mod_work 9 = .ok (.iaload, 1) := by decide +kernel
theorem d_Mod_work_10 : decode b_Mod_work 10 = .ok (.iadd, 1) := by decide +kernel
theorem d_Mod_work_11 : decode b_Mod_work 11 = .ok (.istore 4, 2) := by decide +kernel
theorem d_Mod_work_13 : decode b_Mod_work 13 = .ok (.aload_n 0, 1) := by decide +kernel
theorem d_Mod_work_14 : decode b_Mod_work 14 = .ok (.iconst 0, 1) := by decide +kernel
theorem d_Mod_work_15 : decode b_Mod_work 15 = .ok (.putfield 140, 3) := by decide +kernel
theorem d_Mod_work_18 : decode b_Mod_work 18 = .ok (.aload_n 0, 1) := by decide +kernel
theorem d_Mod_work_19 : decode b_Mod_work 19 = .ok (.iconst 0, 1) := by decide +kernel
theorem d_Mod_work_20 : decode b_Mod_work 20 = .ok (.putfield 143, 3) := by decide +kernel
theorem d_Mod_work_23 : decode b_Mod_work 23 = .ok (.iconst 0, 1) := by decide +kernel
theorem d_Mod_work_24 : decode b_Mod_work 24 = .ok (.istore 5, 2) := by decide +kernel
theorem d_Mod_work_26 : decode b_Mod_work 26 = .ok (.iconst 1, 1) := by decide +kernel
theorem d_Mod_work_27 : decode b_Mod_work 27 = .ok (.istore 6, 2) := by decide +kernel
theorem d_Mod_work_29 : decode b_Mod_work 29 = .ok (.iload_n 2, 1) := by decide +kernel
theorem d_Mod_work_30 : decode b_Mod_work 30 = .ok (.istore 7, 2) := by decide +kernel
theorem d_Mod_work_32 : decode b_Mod_work 32 = .ok (.iload 7, 2) := by decide +kernel
theorem d_Mod_work_34 : decode b_Mod_work 34 = .ok (.iload 4, 2) := by decide +kernel
theorem d_Mod_work_36 : decode b_Mod_work 36 = .ok (.if_icmp .ge 363, 3) := by decide +kernel
theorem d_Mod_work_39 : decode b_Mod_work 39 = .ok (.iload 5, 2) := by decide +kernel
theorem d_Mod_work_41 : decode b_Mod_work 41 = .ok (.ifCond .gt 15, 3) := by decide +kernel
theorem d_Mod_work_44 : decode b_Mod_work 44 = .ok (.aload_n 0, 1) := by decide +kernel
theorem d_Mod_work_45 : decode b_Mod_work 45 = .ok (.getfield 13, 3) := by decide +kernel
theorem d_Mod_work_48 : decode b_Mod_work 48 = .ok (.iload 7, 2) := by decide +kernel
theorem d_Mod_work_50 : decode b_Mod_work 50 = .ok (.iaload, 1) := by decide +kernel
theorem d_Mod_work_51 : decode b_Mod_work 51 = .ok (.bipush 44, 2) := by decide +kernel
theorem d_Mod_work_53 : decode b_Mod_work 53 = .ok (.if_icmp .eq 346, 3) := by decide +kernel
theorem d_Mod_work_56 : decode b_Mod_work 56 = .ok (.aload_n 0, 1) := by decide +kernel
theorem d_Mod_work_57 : decode b_Mod_work 57 = .ok (.getfield 13, 3) := by decide +kernel
theorem d_Mod_work_60 : decode b_Mod_work 60 = .ok (.iload 7, 2) := by decide +kernel
theorem d_Mod_work_62 : decode b_Mod_work 62 = .ok (.iaload, 1) := by decide +kernel
theorem d_Mod_work_63 : decode b_Mod_work 63 = .ok (.istore 8, 2) := by decide +kernel
theorem d_Mod_work_65 : decode b_Mod_work 65 = .ok (.iload 8, 2) := by decide +kernel
theorem d_Mod_work_67 : decode b_Mod_work 67 = .ok (.iconst 1, 1) := by decide +kernel
theorem d_Mod_work_68 : decode b_Mod_work 68 = .ok (.if_icmp .eq 9, 3) := by decide +kernel
theorem d_Mod_work_71 : decode b_Mod_work 71 = .ok (.iload 8, 2) := by decide +kernel
theorem d_Mod_work_73 : decode b_Mod_work 73 = .ok (.iconst 2, 1) := by decide +kernel
theorem d_Mod_work_74 : decode b_Mod_work 74 = .ok (.if_icmp .ne 60, 3) := by decide +kernel
theorem d_Mod_work_77 : decode b_Mod_work 77 = .ok (.aload_n 0, 1) := by decide +kernel
theorem d_Mod_work_78 : decode b_Mod_work 78 = .ok (.dup, 1) := by decide +kernel
theorem d_Mod_work_79 : decode b_Mod_work 79 = .ok (.getfield 124, 3) := by decide +kernel
theorem d_Mod_work_82 : decode b_Mod_work 82 = .ok (.iconst 1, 1) := by decide +kernel
theorem d_Mod_work_83 : decode b_Mod_work 83 = .ok (.iadd, 1) := by decide +kernel
theorem d_Mod_work_84 : decode b_Mod_work 84 = .ok (.putfield 124, 3) := by decide +kernel
theorem d_Mod_work_87 : decode b_Mod_work 87 = .ok (.aload_n 0, 1) := by decide +kernel
theorem d_Mod_work_88 : decode b_Mod_work 88 = .ok (.iload 8, 2) := by decide +kernel
theorem d_Mod_work_90 : decode b_Mod_work 90 = .ok (.iconst 1, 1) := by decide +kernel
theorem d_Mod_work_91 : decode b_Mod_work 91 = .ok (.if_icmp .ne 13, 3) := by decide +kernel
theorem d_Mod_work_94 : decode b_Mod_work 94 = .ok (.aload_n 0, 1) := by decide +kernel
theorem d_Mod_work_95 : decode b_Mod_work 95 = .ok (.getfield 17, 3) := by decide +kernel
theorem d_Mod_work_98 : decode b_Mod_work 98 = .ok (.iload 7, 2) := by decide +kernel
theorem d_Mod_work_100 : decode b_Mod_work 100 = .ok (.iaload, 1) := by decide +kernel
theorem d_Mod_work_101 : decode b_Mod_work 101 = .ok (.goto 23, 3) := by decide +kernel
theorem d_Mod_work_104 : decode b_Mod_work 104 = .ok (.iload_n 3, 1) := by decide +kernel
theorem d_Mod_work_105 : decode b_Mod_work 105 = .ok (.ifCond .eq 18, 3) := by decide +kernel
theorem d_Mod_work_108 : decode b_Mod_work 108 = .ok (.aload_n 0, 1) := by decide +kernel
theorem d_Mod_work_109 : decode b_Mod_work 109 = .ok (.getfield 36, 3) := by decide +kernel
theorem d_Mod_work_112 : decode b_Mod_work 112 = .ok (.aload_n 0, 1) := by decide +kernel
theorem d_Mod_work_113 : decode b_Mod_work 113 = .ok (.getfield 17, 3) := by decide +kernel
theorem d_Mod_work_116 : decode b_Mod_work 116 = .ok (.iload 7, 2) := by decide +kernel
theorem d_Mod_work_118 : decode b_Mod_work 118 = .ok (.iaload, 1) := by decide +kernel
theorem d_Mod_work_119 : decode b_Mod_work 119 = .ok (.iaload, 1) := by decide +kernel
theorem d_Mod_work_120 : decode b_Mod_work 120 = .ok (.goto 4, 3) := by decide +kernel
theorem d_Mod_work_123 : decode b_Mod_work 123 = .ok (.iconst 0, 1) := by decide +kernel
theorem d_Mod_work_124 : decode b_Mod_work 124 = .ok (.iconst 1, 1) := by decide +kernel
theorem d_Mod_work_125 : decode b_Mod_work 125 = .ok (.invokevirtual 160, 3) := by decide +kernel
theorem d_Mod_work_128 : decode b_Mod_work 128 = .ok (.iconst 0, 1) := by decide +kernel
theorem d_Mod_work_129 : decode b_Mod_work 129 = .ok (.istore 6, 2) := by decide +kernel
theorem d_Mod_work_131 : decode b_Mod_work 131 = .ok (.goto 262, 3) := by decide +kernel
theorem d_Mod_work_134 : decode b_Mod_work 134 = .ok (.iload 6, 2) := by decide +kernel
theorem d_Mod_work_136 : decode b_Mod_work 136 = .ok (.ifCond .eq 62, 3) := by decide +kernel
theorem d_Mod_work_139 : decode b_Mod_work 139 = .ok (.iload 8, 2) := by decide +kernel
theorem d_Mod_work_141 : decode b_Mod_work 141 = .ok (.bipush 45, 2) := by decide +kernel
theorem d_Mod_work_143 : decode b_Mod_work 143 = .ok (.if_icmp .eq 17, 3) := by decide +kernel
theorem d_Mod_work_146 : decode b_Mod_work 146 = .ok (.iload 8, 2) := by decide +kernel
theorem d_Mod_work_148 : decode b_Mod_work 148 = .ok (.bipush 33, 2) := by decide +kernel
theorem d_Mod_work_150 : decode b_Mod_work 150 = .ok (.if_icmp .eq 10, 3) := by decide +kernel
theorem d_Mod_work_153 : decode b_Mod_work 153 = .ok (.iload 8, 2) := by decide +kernel
theorem d_Mod_work_155 : decode b_Mod_work 155 = .ok (.bipush 64, 2) := by decide +kernel
theorem d_Mod_work_157 : decode b_Mod_work 157 = .ok (.if_icmp .ne 41, 3) := by decide +kernel
theorem d_Mod_work_160 : decode b_Mod_work 160 = .ok (.aload_n 0, 1) := by decide +kernel
theorem d_Mod_work_161 : decode b_Mod_work 161 = .ok (.dup, 1) := by decide +kernel
theorem d_Mod_work_162 : decode b_Mod_work 162 = .ok (.getfield 124, 3) := by decide +kernel
theorem d_Mod_work_165 : decode b_Mod_work 165 = .ok (.iconst 1, 1) := by decide +kernel
theorem d_Mod_work_166 : decode b_Mod_work 166 = .ok (.iadd, 1) := by decide +kernel
theorem d_Mod_work_167 : decode b_Mod_work 167 = .ok (.putfield 124, 3) := by decide +kernel
theorem d_Mod_work_170 : decode b_Mod_work 170 = .ok (.aload_n 0, 1) := by decide +kernel
theorem d_Mod_work_171 : decode b_Mod_work 171 = .ok (.getfield 60, 3) := by decide +kernel
theorem d_Mod_work_174 : decode b_Mod_work 174 = .ok (.aload_n 0, 1) := by decide +kernel
theorem d_Mod_work_175 : decode b_Mod_work 175 = .ok (.getfield 143, 3) := by decide +kernel
theorem d_Mod_work_178 : decode b_Mod_work 178 = .ok (.sipush 1000, 3) := by decide +kernel
theorem d_Mod_work_181 : decode b_Mod_work 181 = .ok (.iload 8, 2) := by decide +kernel
theorem d_Mod_work_183 : decode b_Mod_work 183 = .ok (.iadd, 1) := by decide +kernel
theorem d_Mod_work_184 : decode b_Mod_work 184 = .ok (.iastore, 1) := by decide +kernel
theorem d_Mod_work_185 : decode b_Mod_work 185 = .ok (.aload_n 0, 1) := by decide +kernel
theorem d_Mod_work_186 : decode b_Mod_work 186 = .ok (.dup, 1) := by decide +kernel
theorem d_Mod_work_187 : decode b_Mod_work 187 = .ok (.getfield 143, 3) := by decide +kernel
theorem d_Mod_work_190 : decode b_Mod_work 190 = .ok (.iconst 1, 1) := by decide +kernel
theorem d_Mod_work_191 : decode b_Mod_work 191 = .ok (.iadd, 1) := by decide +kernel
theorem d_Mod_work_192 : decode b_Mod_work 192 = .ok (.putfield 143, 3) := by decide +kernel
theorem d_Mod_work_195 : decode b_Mod_work 195 = .ok (.goto 198, 3) := by decide +kernel
theorem d_Mod_work_198 : decode b_Mod_work 198 = .ok (.iload 8, 2) := by decide +kernel
theorem d_Mod_work_200 : decode b_Mod_work 200 = .ok (.bipush 40, 2) := by decide +kernel
theorem d_Mod_work_202 : decode b_Mod_work 202 = .ok (.if_icmp .eq 17, 3) := by decide +kernel
theorem d_Mod_work_205 : decode b_Mod_work 205 = .ok (.iload 8, 2) := by decide +kernel
theorem d_Mod_work_207 : decode b_Mod_work 207 = .ok (.bipush 20, 2) := by decide +kernel
theorem d_Mod_work_209 : decode b_Mod_work 209 = .ok (.if_icmp .lt 74, 3) := by decide +kernel
theorem d_Mod_work_212 : decode b_Mod_work 212 = .ok (.iload 8, 2) := by decide +kernel
theorem d_Mod_work_214 : decode b_Mod_work 214 = .ok (.bipush 27, 2) := by decide +kernel
theorem d_Mod_work_216 : decode b_Mod_work 216 = .ok (.if_icmp .gt 67, 3) := by decide +kernel
theorem d_Mod_work_219 : decode b_Mod_work 219 = .ok (.iload 8, 2) := by decide +kernel
theorem d_Mod_work_221 : decode b_Mod_work 221 = .ok (.bipush 40, 2) := by decide +kernel
theorem d_Mod_work_223 : decode b_Mod_work 223 = .ok (.if_icmp .eq 16, 3) := by decide +kernel
theorem d_Mod_work_226 : decode b_Mod_work 226 = .ok (.aload_n 0, 1) := by decide +kernel
theorem d_Mod_work_227 : decode b_Mod_work 227 = .ok (.dup, 1) := by decide +kernel
theorem d_Mod_work_228 : decode b_Mod_work 228 = .ok (.getfield 124, 3) := by decide +kernel
theorem d_Mod_work_231 : decode b_Mod_work 231 = .ok (.iconst 1, 1) := by decide +kernel
theorem d_Mod_work_232 : decode b_Mod_work 232 = .ok (.iadd, 1) := by decide +kernel
theorem d_Mod_work_233 : decode b_Mod_work 233 = .ok (.putfield 124, 3) := by decide +kernel
theorem d_Mod_work_236 : decode b_Mod_work 236 = .ok (.iinc 7 1, 3) := by decide +kernel
theorem d_Mod_work_239 : decode b_Mod_work 239 = .ok (.aload_n 0, 1) := by decide +kernel
theorem d_Mod_work_240 : decode b_Mod_work 240 = .ok (.getfield 60, 3) := by decide +kernel
theorem d_Mod_work_243 : decode b_Mod_work 243 = .ok (.aload_n 0, 1) := by decide +kernel
theorem d_Mod_work_244 : decode b_Mod_work 244 = .ok (.getfield 143, 3) := by decide +kernel
theorem d_Mod_work_247 : decode b_Mod_work 247 = .ok (.iload 8, 2) := by decide +kernel
theorem d_Mod_work_249 : decode b_Mod_work 249 = .ok (.bipush 40, 2) := by decide +kernel
theorem d_Mod_work_251 : decode b_Mod_work 251 = .ok (.if_icmp .ne 9, 3) := by decide +kernel
theorem d_Mod_work_254 : decode b_Mod_work 254 = .ok (.sipush 500, 3) := by decide +kernel
theorem d_Mod_work_257 : decode b_Mod_work 257 = .ok (.goto 9, 3) := by decide +kernel
theorem d_Mod_work_260 : decode b_Mod_work 260 = .ok (.sipush 500, 3) := by decide +kernel
theorem d_Mod_work_263 : decode b_Mod_work 263 = .ok (.iload 8, 2) := by decide +kernel
theorem d_Mod_work_265 : decode b_Mod_work 265 = .ok (.iadd, 1) := by decide +kernel
theorem d_Mod_work_266 : decode b_Mod_work 266 = .ok (.iastore, 1) := by decide +kernel
theorem d_Mod_work_267 : decode b_Mod_work 267 = .ok (.aload_n 0, 1) := by decide +kernel
theorem d_Mod_work_268 : decode b_Mod_work 268 = .ok (.dup, 1) := by decide +kernel
theorem d_Mod_work_269 : decode b_Mod_work 269 = .ok (.getfield 143, 3) := by decide +kernel
theorem d_Mod_work_272 : decode b_Mod_work 272 = .ok (.iconst 1, 1) := by decide +kernel
theorem d_Mod_work_273 : decode b_Mod_work 273 = .ok (.iadd, 1) := by decide +kernel
theorem d_Mod_work_274 : decode b_Mod_work 274 = .ok (.putfield 143, 3) := by decide +kernel
theorem d_Mod_work_277 : decode b_Mod_work 277 = .ok (.iinc 5 1, 3) := by decide +kernel
theorem d_Mod_work_280 : decode b_Mod_work 280 = .ok (.goto 113, 3) := by decide +kernel
theorem d_Mod_work_283 : decode b_Mod_work 283 = .ok (.iload 8, 2) := by decide +kernel
theorem d_Mod_work_285 : decode b_Mod_work 285 = .ok (.bipush 41, 2) := by decide +kernel
theorem d_Mod_work_287 : decode b_Mod_work 287 = .ok (.if_icmp .ne 45, 3) := by decide +kernel
theorem d_Mod_work_290 : decode b_Mod_work 290 = .ok (.aload_n 0, 1) := by decide +kernel
theorem d_Mod_work_291 : decode b_Mod_work 291 = .ok (.iconst 1, 1) := by decide +kernel
theorem d_Mod_work_292 : decode b_Mod_work 292 = .ok (.invokevirtual 164, 3) := by decide +kernel
theorem d_Mod_work_295 : decode b_Mod_work 295 = .ok (.aload_n 0, 1) := by decide +kernel
theorem d_Mod_work_296 : decode b_Mod_work 296 = .ok (.dup, 1) := by decide +kernel
theorem d_Mod_work_297 : decode b_Mod_work 297 = .ok (.getfield 143, 3) := by decide +kernel
theorem d_Mod_work_300 : decode b_Mod_work 300 = .ok (.iconst 1, 1) := by decide +kernel
theorem d_Mod_work_301 : decode b_Mod_work 301 = .ok (.isub, 1) := by decide +kernel
theorem d_Mod_work_302 : decode b_Mod_work 302 = .ok (.putfield 143, 3) := by decide +kernel
theorem d_Mod_work_305 : decode b_Mod_work 305 = .ok (.iinc 5 (-1), 3) := by decide +kernel
theorem d_Mod_work_308 : decode b_Mod_work 308 = .ok (.aload_n 0, 1) := by decide +kernel
theorem d_Mod_work_309 : decode b_Mod_work 309 = .ok (.aload_n 0, 1) := by decide +kernel
theorem d_Mod_work_310 : decode b_Mod_work 310 = .ok (.getfield 60, 3) := by decide +kernel
theorem d_Mod_work_313 : decode b_Mod_work 313 = .ok (.aload_n 0, 1) := by decide +kernel
theorem d_Mod_work_314 : decode b_Mod_work 314 = .ok (.getfield 143, 3) := by decide +kernel
theorem d_Mod_work_317 : decode b_Mod_work 317 = .ok (.iaload, 1) := by decide +kernel
theorem d_Mod_work_318 : decode b_Mod_work 318 = .ok (.sipush 500, 3) := by decide +kernel
theorem d_Mod_work_321 : decode b_Mod_work 321 = .ok (.isub, 1) := by decide +kernel
theorem d_Mod_work_322 : decode b_Mod_work 322 = .ok (.iload_n 3, 1) := by decide +kernel
theorem d_Mod_work_323 : decode b_Mod_work 323 = .ok (.invokevirtual 168, 3) := by decide +kernel
theorem d_Mod_work_326 : decode b_Mod_work 326 = .ok (.iconst 0, 1) := by decide +kernel
theorem d_Mod_work_327 : decode b_Mod_work 327 = .ok (.istore 6, 2) := by decide +kernel
theorem d_Mod_work_329 : decode b_Mod_work 329 = .ok (.goto 64, 3) := by decide +kernel
theorem d_Mod_work_332 : decode b_Mod_work 332 = .ok (.iload 8, 2) := by decide +kernel
theorem d_Mod_work_334 : decode b_Mod_work 334 = .ok (.bipush 44, 2) := by decide +kernel
theorem d_Mod_work_336 : decode b_Mod_work 336 = .ok (.if_icmp .ne 14, 3) := by decide +kernel
theorem d_Mod_work_339 : decode b_Mod_work 339 = .ok (.aload_n 0, 1) := by decide +kernel
theorem d_Mod_work_340 : decode b_Mod_work 340 = .ok (.iconst 1, 1) := by decide +kernel
theorem d_Mod_work_341 : decode b_Mod_work 341 = .ok (.invokevirtual 164, 3) := by decide +kernel
theorem d_Mod_work_344 : decode b_Mod_work 344 = .ok (.iconst 1, 1) := by decide +kernel
theorem d_Mod_work_345 : decode b_Mod_work 345 = .ok (.istore 6, 2) := by decide +kernel
theorem d_Mod_work_347 : decode b_Mod_work 347 = .ok (.goto 46, 3) := by decide +kernel
theorem d_Mod_work_350 : decode b_Mod_work 350 = .ok (.aload_n 0, 1) := by decide +kernel
theorem d_Mod_work_351 : decode b_Mod_work 351 = .ok (.dup, 1) := by decide +kernel
theorem d_Mod_work_352 : decode b_Mod_work 352 = .ok (.getfield 124, 3) := by decide +kernel
theorem d_Mod_work_355 : decode b_Mod_work 355 = .ok (.iconst 1, 1) := by decide +kernel
theorem d_Mod_work_356 : decode b_Mod_work 356 = .ok (.iadd, 1) := by decide +kernel
theorem d_Mod_work_357 : decode b_Mod_work 357 = .ok (.putfield 124, 3) := by decide +kernel
theorem d_Mod_work_360 : decode b_Mod_work 360 = .ok (.aload_n 0, 1) := by decide +kernel
theorem d_Mod_work_361 : decode b_Mod_work 361 = .ok (.iload 8, 2) := by decide +kernel
theorem d_Mod_work_363 : decode b_Mod_work 363 = .ok (.invokestatic 110, 3) := by decide +kernel
theorem d_Mod_work_366 : decode b_Mod_work 366 = .ok (.invokevirtual 164, 3) := by decide +kernel
theorem d_Mod_work_369 : decode b_Mod_work 369 = .ok (.aload_n 0, 1) := by decide +kernel
theorem d_Mod_work_370 : decode b_Mod_work 370 = .ok (.getfield 60, 3) := by decide +kernel
theorem d_Mod_work_373 : decode b_Mod_work 373 = .ok (.aload_n 0, 1) := by decide +kernel
theorem d_Mod_work_374 : decode b_Mod_work 374 = .ok (.getfield 143, 3) := by decide +kernel
theorem d_Mod_work_377 : decode b_Mod_work 377 = .ok (.iload 8, 2) := by decide +kernel
theorem d_Mod_work_379 : decode b_Mod_work 379 = .ok (.iastore, 1) := by decide +kernel
theorem d_Mod_work_380 : decode b_Mod_work 380 = .ok (.aload_n 0, 1) := by decide +kernel
theorem d_Mod_work_381 : decode b_Mod_work 381 = .ok (.dup, 1) := by decide +kernel
theorem d_Mod_work_382 : decode b_Mod_work 382 = .ok (.getfield 143, 3) := by decide +kernel
theorem d_Mod_work_385 : decode b_Mod_work 385 = .ok (.iconst 1, 1) := by decide +kernel
theorem d_Mod_work_386 : decode b_Mod_work 386 = .ok (.iadd, 1) := by decide +kernel
theorem d_Mod_work_387 : decode b_Mod_work 387 = .ok (.putfield 143, 3) := by decide +kernel
theorem d_Mod_work_390 : decode b_Mod_work 390 = .ok (.iconst 1, 1) := by decide +kernel
theorem d_Mod_work_391 : decode b_Mod_work 391 = .ok (.istore 6, 2) := by decide +kernel
theorem d_Mod_work_393 : decode b_Mod_work 393 = .ok (.iinc 7 1, 3) := by decide +kernel
theorem d_Mod_work_396 : decode b_Mod_work 396 = .ok (.goto (-364), 3) := by decide +kernel
theorem d_Mod_work_399 : decode b_Mod_work 399 = .ok (.aload_n 0, 1) := by decide +kernel
theorem d_Mod_work_400 : decode b_Mod_work 400 = .ok (.iconst 1, 1) := by decide +kernel
theorem d_Mod_work_401 : decode b_Mod_work 401 = .ok (.invokevirtual 164, 3) := by decide +kernel
theorem d_Mod_work_404 : decode b_Mod_work 404 = .ok (.aload_n 0, 1) := by decide +kernel
theorem d_Mod_work_405 : decode b_Mod_work 405 = .ok (.iload 7, 2) := by decide +kernel
theorem d_Mod_work_407 : decode b_Mod_work 407 = .ok (.putfield 130, 3) := by decide +kernel
theorem d_Mod_work_410 : decode b_Mod_work 410 = .ok (.aload_n 0, 1) := by decide +kernel
theorem d_Mod_work_411 : decode b_Mod_work 411 = .ok (.getfield 54, 3) := by decide +kernel
theorem d_Mod_work_414 : decode b_Mod_work 414 = .ok (.iconst 0, 1) := by decide +kernel
theorem d_Mod_work_415 : decode b_Mod_work 415 = .ok (.iaload, 1) := by decide +kernel
theorem d_Mod_work_416 : decode b_Mod_work 416 = .ok (.ireturn, 1) := by decide +kernel
def μ_Mod_work : ax_M := (b_Mod_work, 9, "DotConsoleModel", (some .int), 5, 115, 0, 0)
theorem Y_Mod_work : ax_YV μ_Mod_work y_Mod_work 3 := ⟨⟨ax_mem (by decide +kernel) rfl, ax_mem (by decide +kernel) rfl, by decide, by decide, by decide +kernel⟩, ax_mem (by decide +kernel) rfl, ax_mem (by decide +kernel) rfl⟩
theorem kf_Mod_124 : Cond.fieldLink "DotConsoleModel" 124 "DotConsoleModel" "counted" "I" ∈ ax_T := ax_mem (by decide +kernel) rfl
theorem kf_Mod_36 : Cond.fieldLink "DotConsoleModel" 36 "DotConsoleModel" "values" "[I" ∈ ax_T := ax_mem (by decide +kernel) rfl
theorem km_Mod_164 : Cond.methodLink "DotConsoleModel" 164 ⟨"DotConsoleModel", "reduce", "(I)V"⟩ ∈ ax_T := ax_mem (by decide +kernel) rfl
theorem km_Mod_168 : Cond.methodLink "DotConsoleModel" 168 ⟨"DotConsoleModel", "close", "(IZ)V"⟩ ∈ ax_T := ax_mem (by decide +kernel) rfl
theorem kf_Mod_130 : Cond.fieldLink "DotConsoleModel" 130 "DotConsoleModel" "next" "I" ∈ ax_T := ax_mem (by decide +kernel) rfl
def J_Mod_work_124 (N : Nat) (K32 : Int32 → Int32 → Int32 → Int32 → Int32 → St → Option (Int32 × St)) (t0 : Int32) (l3 : Int32) (l4 : Int32) (l5 : Int32) (l7 : Int32) (σ : St) : Option (Int32 × St) :=
  ax_bindV (J_Mod_put N t0 1 σ) (fun σ9 =>
  ax_let ((l7 + 1) : Int32) (fun v4 =>
  K32 l3 l4 l5 0 v4 σ9))
def J_Mod_work_77 (N : Nat) (K32 : Int32 → Int32 → Int32 → Int32 → Int32 → St → Option (Int32 × St)) (l3 : Int32) (l4 : Int32) (l5 : Int32) (l7 : Int32) (l8 : Int32) (σ : St) : Option (Int32 × St) :=
  ax_let (sF σ 11 ((σ.1 11) + 1)) (fun σ5 =>
  (if l8 = 1 then
  (if (inB l7 1400) = true then J_Mod_work_124 N K32 (σ5.2 2 l7.toNatClampNeg) l3 l4 l5 l7 σ5 else none)
  else (if l3 = 0 then
  J_Mod_work_124 N K32 0 l3 l4 l5 l7 σ5
  else (if (inB l7 1400) = true then (if (inB (σ5.2 2 l7.toNatClampNeg) 64) = true then J_Mod_work_124 N K32 (σ5.2 7 (σ5.2 2 l7.toNatClampNeg).toNatClampNeg) l3 l4 l5 l7 σ5 else none) else none))))
def J_Mod_work_160 (N : Nat) (K32 : Int32 → Int32 → Int32 → Int32 → Int32 → St → Option (Int32 × St)) (l3 : Int32) (l4 : Int32) (l5 : Int32) (l6 : Int32) (l7 : Int32) (l8 : Int32) (σ : St) : Option (Int32 × St) :=
  ax_let (sF σ 11 ((σ.1 11) + 1)) (fun σ6 =>
  (if (inB (σ6.1 9) 110) = true then ax_let (sA σ6 14 (σ6.1 9).toNatClampNeg (1000 + l8)) (fun σ7 =>
  ax_let (sF σ7 9 ((σ7.1 9) + 1)) (fun σ8 =>
  ax_let ((l7 + 1) : Int32) (fun v3 =>
  K32 l3 l4 l5 l6 v3 σ8))) else none))
def J_Mod_work_266 (N : Nat) (K32 : Int32 → Int32 → Int32 → Int32 → Int32 → St → Option (Int32 × St)) (t0 : Int32) (t1 : Int32) (l3 : Int32) (l4 : Int32) (l5 : Int32) (l6 : Int32) (l7 : Int32) (σ : St) : Option (Int32 × St) :=
  (if (inB t1 110) = true then ax_let (sA σ 14 t1.toNatClampNeg t0) (fun σ20 =>
  ax_let (sF σ20 9 ((σ20.1 9) + 1)) (fun σ21 =>
  ax_let ((l5 + 1) : Int32) (fun v10 =>
  ax_let ((l7 + 1) : Int32) (fun v11 =>
  K32 l3 l4 v10 l6 v11 σ21)))) else none)
def J_Mod_work_239 (N : Nat) (K32 : Int32 → Int32 → Int32 → Int32 → Int32 → St → Option (Int32 × St)) (l3 : Int32) (l4 : Int32) (l5 : Int32) (l6 : Int32) (l7 : Int32) (l8 : Int32) (σ : St) : Option (Int32 × St) :=
  (if l8 = 40 then
  J_Mod_work_266 N K32 500 (σ.1 9) l3 l4 l5 l6 l7 σ
  else J_Mod_work_266 N K32 (500 + l8) (σ.1 9) l3 l4 l5 l6 l7 σ)
def J_Mod_work_219 (N : Nat) (K32 : Int32 → Int32 → Int32 → Int32 → Int32 → St → Option (Int32 × St)) (l3 : Int32) (l4 : Int32) (l5 : Int32) (l6 : Int32) (l7 : Int32) (l8 : Int32) (σ : St) : Option (Int32 × St) :=
  (if l8 = 40 then
  J_Mod_work_239 N K32 l3 l4 l5 l6 l7 l8 σ
  else ax_let (sF σ 11 ((σ.1 11) + 1)) (fun σ10 =>
  ax_let ((l7 + 1) : Int32) (fun v5 =>
  J_Mod_work_239 N K32 l3 l4 l5 l6 v5 l8 σ10)))
def J_Mod_work_283 (N : Nat) (K32 : Int32 → Int32 → Int32 → Int32 → Int32 → St → Option (Int32 × St)) (l3 : Int32) (l4 : Int32) (l5 : Int32) (l7 : Int32) (l8 : Int32) (σ : St) : Option (Int32 × St) :=
  (if l8 = 41 then
  ax_bindV (J_Mod_reduce N 1 σ) (fun σ17 =>
  ax_let (sF σ17 9 ((σ17.1 9) - 1)) (fun σ18 =>
  ax_let ((l5 + (-1)) : Int32) (fun v8 =>
  (if (inB (σ18.1 9) 110) = true then ax_bindV (J_Mod_close N ((σ18.2 14 (σ18.1 9).toNatClampNeg) - 500) l3 σ18) (fun σ19 =>
  ax_let ((l7 + 1) : Int32) (fun v9 =>
  K32 l3 l4 v8 0 v9 σ19)) else none))))
  else (if l8 = 44 then
  ax_bindV (J_Mod_reduce N 1 σ) (fun σ16 =>
  ax_let ((l7 + 1) : Int32) (fun v7 =>
  K32 l3 l4 l5 1 v7 σ16))
  else ax_let (sF σ 11 ((σ.1 11) + 1)) (fun σ11 =>
  ax_bind (J_Mod_level N l8 σ11) (fun r1 σ12 =>
  ax_bindV (J_Mod_reduce N r1 σ12) (fun σ13 =>
  (if (inB (σ13.1 9) 110) = true then ax_let (sA σ13 14 (σ13.1 9).toNatClampNeg l8) (fun σ14 =>
  ax_let (sF σ14 9 ((σ14.1 9) + 1)) (fun σ15 =>
  ax_let ((l7 + 1) : Int32) (fun v6 =>
  K32 l3 l4 l5 1 v6 σ15))) else none))))))
def J_Mod_work_198 (N : Nat) (K32 : Int32 → Int32 → Int32 → Int32 → Int32 → St → Option (Int32 × St)) (l3 : Int32) (l4 : Int32) (l5 : Int32) (l6 : Int32) (l7 : Int32) (l8 : Int32) (σ : St) : Option (Int32 × St) :=
  (if l8 = 40 then
  J_Mod_work_219 N K32 l3 l4 l5 l6 l7 l8 σ
  else (if l8 < 20 then
  J_Mod_work_283 N K32 l3 l4 l5 l7 l8 σ
  else (if 27 < l8 then
  J_Mod_work_283 N K32 l3 l4 l5 l7 l8 σ
  else J_Mod_work_219 N K32 l3 l4 l5 l6 l7 l8 σ)))
def J_Mod_work_56 (N : Nat) (K32 : Int32 → Int32 → Int32 → Int32 → Int32 → St → Option (Int32 × St)) (l3 : Int32) (l4 : Int32) (l5 : Int32) (l6 : Int32) (l7 : Int32) (σ : St) : Option (Int32 × St) :=
  (if (inB l7 1400) = true then ax_let ((σ.2 1 l7.toNatClampNeg) : Int32) (fun v2 =>
  (if v2 = 1 then
  J_Mod_work_77 N K32 l3 l4 l5 l7 v2 σ
  else (if v2 = 2 then
  J_Mod_work_77 N K32 l3 l4 l5 l7 v2 σ
  else (if l6 = 0 then
  J_Mod_work_198 N K32 l3 l4 l5 l6 l7 v2 σ
  else (if v2 = 45 then
  J_Mod_work_160 N K32 l3 l4 l5 l6 l7 v2 σ
  else (if v2 = 33 then
  J_Mod_work_160 N K32 l3 l4 l5 l6 l7 v2 σ
  else (if v2 = 64 then
  J_Mod_work_160 N K32 l3 l4 l5 l6 l7 v2 σ
  else J_Mod_work_198 N K32 l3 l4 l5 l6 l7 v2 σ))))))) else none)
def J_Mod_work_399 (N : Nat) (l7 : Int32) (σ : St) : Option (Int32 × St) :=
  ax_bindV (J_Mod_reduce N 1 σ) (fun σ3 =>
  ax_let (sF σ3 10 l7) (fun σ4 =>
  (if (inB 0 60) = true then some ((σ4.2 12 (0 : Int32).toNatClampNeg), σ4) else none)))
def J_Mod_work_32 (N : Nat) : Nat → Int32 → Int32 → Int32 → Int32 → Int32 → St → Option (Int32 × St)
  | 0, _, _, _, _, _, _ => none
  | n + 1, l3, l4, l5, l6, l7, σ => (if l4 ≤ l7 then
  J_Mod_work_399 N l7 σ
  else (if 0 < l5 then
  J_Mod_work_56 N (fun l3 l4 l5 l6 l7 σ => J_Mod_work_32 N n l3 l4 l5 l6 l7 σ) l3 l4 l5 l6 l7 σ
  else (if (inB l7 1400) = true then (if (σ.2 1 l7.toNatClampNeg) = 44 then
  J_Mod_work_399 N l7 σ
  else J_Mod_work_56 N (fun l3 l4 l5 l6 l7 σ => J_Mod_work_32 N n l3 l4 l5 l6 l7 σ) l3 l4 l5 l6 l7 σ) else none)))
def J_Mod_work (N : Nat) (a1 : Int32) (a2 : Int32) (a3 : Int32) (σ : St) : Option (Int32 × St) :=
  (if (inB a1 29) = true then ax_let (((48 * a1) + (σ.2 4 a1.toNatClampNeg)) : Int32) (fun v1 =>
  ax_let (sF σ 8 0) (fun σ1 =>
  ax_let (sF σ1 9 0) (fun σ2 =>
  J_Mod_work_32 N N a3 v1 0 1 a2 σ2))) else none)
set_option maxHeartbeats 1000000 in
theorem t_Mod_work_124 {N : Nat} {g : ax_G} {r9 : Int32} {s9 : St} (x : ax_X) (A : Nat → Prop) {K32 : Int32 → Int32 → Int32 → Int32 → Int32 → St → Option (Int32 × St)} (hK32 : ∀ (l3 : Int32) (l4 : Int32) (l5 : Int32) (l6 : Int32) (l7 : Int32) (σ : St), K32 l3 l4 l5 l6 l7 σ = some (r9, s9) → AW x μ_Mod_work g A (wM g) (0, 0) (ax_QI x μ_Mod_work g A (wM g) (ax_eqI r9 s9)) 32 [(0, .ref (g.2.1 32)), (3, .int l3), (4, .int l4), (5, .int l5), (6, .int l6), (7, .int l7)] [] σ) : ∀ (t0 : Int32) (l3 : Int32) (l4 : Int32) (l5 : Int32) (l7 : Int32) (σ : St), J_Mod_work_124 N K32 t0 l3 l4 l5 l7 σ = some (r9, s9) → AW x μ_Mod_work g A (wM g) (0, 0) (ax_QI x μ_Mod_work g A (wM g) (ax_eqI r9 s9)) 124 [(0, .ref (g.2.1 32)), (3, .int l3), (4, .int l4), (5, .int l5), (7, .int l7)] [.int t0, .ref (g.2.1 32)] σ := by
  intro t0 l3 l4 l5 l7 σ hJ
  rw [J_Mod_work_124] at hJ
  refine aw_iconst (n := 125) (v := 1) d_Mod_work_124 rfl (by decide) ?_
  obtain ⟨σ9, hc2, hJ⟩ := ax_bindVE hJ
  refine aw_callVv (n := 128) (c_Mod_put hc2) 0 rfl rfl Y_Mod_put km_Mod_160 (by decide) (by decide) rfl rfl (Nat.le_of_ble_eq_true rfl) d_Mod_work_125 rfl (fun s9 hp => ?_)
  subst hp
  refine aw_iconst (n := 129) (v := 0) d_Mod_work_128 rfl (by decide) ?_
  refine aw_istore (n := 131) d_Mod_work_129 rfl (by decide) rfl ?_
  refine aw_goto (t := 393) d_Mod_work_131 (by decide) ?_
  obtain ⟨v4, ev4, hJ⟩ := ax_letE hJ
  refine aw_iinc (n := 396) (j := 5) (v := v4) d_Mod_work_393 rfl rfl (ev4) (by decide) rfl ?_
  refine aw_goto (t := 32) d_Mod_work_396 (by decide) ?_
  refine aw_sub [2, 3, 4, 5, 1, 0] rfl ?_
  exact hK32 _ _ _ _ _ _ hJ
set_option maxHeartbeats 1000000 in
theorem t_Mod_work_77 {N : Nat} {g : ax_G} {r9 : Int32} {s9 : St} (x : ax_X) (A : Nat → Prop) {K32 : Int32 → Int32 → Int32 → Int32 → Int32 → St → Option (Int32 × St)} (hK32 : ∀ (l3 : Int32) (l4 : Int32) (l5 : Int32) (l6 : Int32) (l7 : Int32) (σ : St), K32 l3 l4 l5 l6 l7 σ = some (r9, s9) → AW x μ_Mod_work g A (wM g) (0, 0) (ax_QI x μ_Mod_work g A (wM g) (ax_eqI r9 s9)) 32 [(0, .ref (g.2.1 32)), (3, .int l3), (4, .int l4), (5, .int l5), (6, .int l6), (7, .int l7)] [] σ) : ∀ (l3 : Int32) (l4 : Int32) (l5 : Int32) (l7 : Int32) (l8 : Int32) (σ : St), J_Mod_work_77 N K32 l3 l4 l5 l7 l8 σ = some (r9, s9) → AW x μ_Mod_work g A (wM g) (0, 0) (ax_QI x μ_Mod_work g A (wM g) (ax_eqI r9 s9)) 77 [(0, .ref (g.2.1 32)), (3, .int l3), (4, .int l4), (5, .int l5), (7, .int l7), (8, .int l8)] [] σ := by
  intro l3 l4 l5 l7 l8 σ hJ
  rw [J_Mod_work_77] at hJ
  refine aw_aload_n (n := 78) d_Mod_work_77 rfl rfl 0 rfl ?_
  refine aw_dup (n := 79) d_Mod_work_78 rfl rfl ?_
  refine gf_Mod_counted (n := 82) d_Mod_work_79 rfl kf_Mod_124 ?_
  refine aw_iconst (n := 83) (v := 1) d_Mod_work_82 rfl (by decide) ?_
  refine aw_iadd (n := 84) d_Mod_work_83 rfl ?_
  refine pf_Mod_counted (n := 87) d_Mod_work_84 rfl kf_Mod_124 ?_
  obtain ⟨σ5, eσ5, hJ⟩ := ax_letE hJ
  refine aw_let eσ5 ?_
  refine aw_aload_n (n := 88) d_Mod_work_87 rfl rfl 0 rfl ?_
  refine aw_iload (n := 90) d_Mod_work_88 rfl 5 rfl ?_
  refine aw_iconst (n := 91) (v := 1) d_Mod_work_90 rfl (by decide) ?_
  refine aw_icmp_ne (n := 94) (t := 104) d_Mod_work_91 rfl (by decide) (fun c10 => ?_) (fun c10 => ?_)
  · rw [if_neg c10] at hJ
    refine aw_iload_n (n := 105) d_Mod_work_104 rfl rfl 1 rfl ?_
    refine aw_if_eq (n := 108) (t := 123) d_Mod_work_105 rfl (by decide) (fun c11 => ?_) (fun c11 => ?_)
    · rw [if_pos c11] at hJ
      refine aw_iconst (n := 124) (v := 0) d_Mod_work_123 rfl (by decide) ?_
      refine aw_sub [0, 1, 2, 3, 4] rfl ?_
      exact t_Mod_work_124 x A hK32 _ _ _ _ _ _ hJ
    · rw [if_neg c11] at hJ
      refine aw_aload_n (n := 109) d_Mod_work_108 rfl rfl 0 rfl ?_
      refine gf_Mod_values (n := 112) d_Mod_work_109 rfl kf_Mod_36 ?_
      refine aw_aload_n (n := 113) d_Mod_work_112 rfl rfl 0 rfl ?_
      refine gf_Mod_meaning (n := 116) d_Mod_work_113 rfl kf_Mod_17 ?_
      refine aw_iload (n := 118) d_Mod_work_116 rfl 4 rfl ?_
      obtain ⟨h5, hJ⟩ := ax_need hJ
      refine al_35 (n := 119) d_Mod_work_118 rfl h5 ?_
      obtain ⟨h6, hJ⟩ := ax_need hJ
      refine al_40 (n := 120) d_Mod_work_119 rfl h6 ?_
      refine aw_goto (t := 124) d_Mod_work_120 (by decide) ?_
      refine aw_sub [0, 1, 2, 3, 4] rfl ?_
      exact t_Mod_work_124 x A hK32 _ _ _ _ _ _ hJ
  · rw [if_pos c10] at hJ
    refine aw_aload_n (n := 95) d_Mod_work_94 rfl rfl 0 rfl ?_
    refine gf_Mod_meaning (n := 98) d_Mod_work_95 rfl kf_Mod_17 ?_
    refine aw_iload (n := 100) d_Mod_work_98 rfl 4 rfl ?_
    obtain ⟨h7, hJ⟩ := ax_need hJ
    refine al_35 (n := 101) d_Mod_work_100 rfl h7 ?_
    refine aw_goto (t := 124) d_Mod_work_101 (by decide) ?_
    refine aw_sub [0, 1, 2, 3, 4] rfl ?_
    exact t_Mod_work_124 x A hK32 _ _ _ _ _ _ hJ
set_option maxHeartbeats 1000000 in
theorem t_Mod_work_160 {N : Nat} {g : ax_G} {r9 : Int32} {s9 : St} (x : ax_X) (A : Nat → Prop) {K32 : Int32 → Int32 → Int32 → Int32 → Int32 → St → Option (Int32 × St)} (hK32 : ∀ (l3 : Int32) (l4 : Int32) (l5 : Int32) (l6 : Int32) (l7 : Int32) (σ : St), K32 l3 l4 l5 l6 l7 σ = some (r9, s9) → AW x μ_Mod_work g A (wM g) (0, 0) (ax_QI x μ_Mod_work g A (wM g) (ax_eqI r9 s9)) 32 [(0, .ref (g.2.1 32)), (3, .int l3), (4, .int l4), (5, .int l5), (6, .int l6), (7, .int l7)] [] σ) : ∀ (l3 : Int32) (l4 : Int32) (l5 : Int32) (l6 : Int32) (l7 : Int32) (l8 : Int32) (σ : St), J_Mod_work_160 N K32 l3 l4 l5 l6 l7 l8 σ = some (r9, s9) → AW x μ_Mod_work g A (wM g) (0, 0) (ax_QI x μ_Mod_work g A (wM g) (ax_eqI r9 s9)) 160 [(0, .ref (g.2.1 32)), (3, .int l3), (4, .int l4), (5, .int l5), (6, .int l6), (7, .int l7), (8, .int l8)] [] σ := by
  intro l3 l4 l5 l6 l7 l8 σ hJ
  rw [J_Mod_work_160] at hJ
  refine aw_aload_n (n := 161) d_Mod_work_160 rfl rfl 0 rfl ?_
  refine aw_dup (n := 162) d_Mod_work_161 rfl rfl ?_
  refine gf_Mod_counted (n := 165) d_Mod_work_162 rfl kf_Mod_124 ?_
  refine aw_iconst (n := 166) (v := 1) d_Mod_work_165 rfl (by decide) ?_
  refine aw_iadd (n := 167) d_Mod_work_166 rfl ?_
  refine pf_Mod_counted (n := 170) d_Mod_work_167 rfl kf_Mod_124 ?_
  obtain ⟨σ6, eσ6, hJ⟩ := ax_letE hJ
  refine aw_let eσ6 ?_
  refine aw_aload_n (n := 171) d_Mod_work_170 rfl rfl 0 rfl ?_
  refine gf_Mod_ops (n := 174) d_Mod_work_171 rfl kf_Mod_60 ?_
  refine aw_aload_n (n := 175) d_Mod_work_174 rfl rfl 0 rfl ?_
  refine gf_Mod_opTop (n := 178) d_Mod_work_175 rfl kf_Mod_143 ?_
  refine aw_sipush (n := 181) (v := 1000) d_Mod_work_178 rfl (by decide) ?_
  refine aw_iload (n := 183) d_Mod_work_181 rfl 6 rfl ?_
  refine aw_iadd (n := 184) d_Mod_work_183 rfl ?_
  obtain ⟨h8, hJ⟩ := ax_need hJ
  refine as_47 (n := 185) d_Mod_work_184 rfl h8 ?_
  obtain ⟨σ7, eσ7, hJ⟩ := ax_letE hJ
  refine aw_let eσ7 ?_
  refine aw_aload_n (n := 186) d_Mod_work_185 rfl rfl 0 rfl ?_
  refine aw_dup (n := 187) d_Mod_work_186 rfl rfl ?_
  refine gf_Mod_opTop (n := 190) d_Mod_work_187 rfl kf_Mod_143 ?_
  refine aw_iconst (n := 191) (v := 1) d_Mod_work_190 rfl (by decide) ?_
  refine aw_iadd (n := 192) d_Mod_work_191 rfl ?_
  refine pf_Mod_opTop (n := 195) d_Mod_work_192 rfl kf_Mod_143 ?_
  obtain ⟨σ8, eσ8, hJ⟩ := ax_letE hJ
  refine aw_let eσ8 ?_
  refine aw_goto (t := 393) d_Mod_work_195 (by decide) ?_
  obtain ⟨v3, ev3, hJ⟩ := ax_letE hJ
  refine aw_iinc (n := 396) (j := 5) (v := v3) d_Mod_work_393 rfl rfl (ev3) (by decide) rfl ?_
  refine aw_goto (t := 32) d_Mod_work_396 (by decide) ?_
  refine aw_sub [1, 2, 3, 4, 5, 0] rfl ?_
  exact hK32 _ _ _ _ _ _ hJ
set_option maxHeartbeats 1000000 in
theorem t_Mod_work_266 {N : Nat} {g : ax_G} {r9 : Int32} {s9 : St} (x : ax_X) (A : Nat → Prop) {K32 : Int32 → Int32 → Int32 → Int32 → Int32 → St → Option (Int32 × St)} (hK32 : ∀ (l3 : Int32) (l4 : Int32) (l5 : Int32) (l6 : Int32) (l7 : Int32) (σ : St), K32 l3 l4 l5 l6 l7 σ = some (r9, s9) → AW x μ_Mod_work g A (wM g) (0, 0) (ax_QI x μ_Mod_work g A (wM g) (ax_eqI r9 s9)) 32 [(0, .ref (g.2.1 32)), (3, .int l3), (4, .int l4), (5, .int l5), (6, .int l6), (7, .int l7)] [] σ) : ∀ (t0 : Int32) (t1 : Int32) (l3 : Int32) (l4 : Int32) (l5 : Int32) (l6 : Int32) (l7 : Int32) (σ : St), J_Mod_work_266 N K32 t0 t1 l3 l4 l5 l6 l7 σ = some (r9, s9) → AW x μ_Mod_work g A (wM g) (0, 0) (ax_QI x μ_Mod_work g A (wM g) (ax_eqI r9 s9)) 266 [(0, .ref (g.2.1 32)), (3, .int l3), (4, .int l4), (5, .int l5), (6, .int l6), (7, .int l7)] [.int t0, .int t1, .ref (g.2.1 47)] σ := by
  intro t0 t1 l3 l4 l5 l6 l7 σ hJ
  rw [J_Mod_work_266] at hJ
  obtain ⟨h11, hJ⟩ := ax_need hJ
  refine as_47 (n := 267) d_Mod_work_266 rfl h11 ?_
  obtain ⟨σ20, eσ20, hJ⟩ := ax_letE hJ
  refine aw_let eσ20 ?_
  refine aw_aload_n (n := 268) d_Mod_work_267 rfl rfl 0 rfl ?_
  refine aw_dup (n := 269) d_Mod_work_268 rfl rfl ?_
  refine gf_Mod_opTop (n := 272) d_Mod_work_269 rfl kf_Mod_143 ?_
  refine aw_iconst (n := 273) (v := 1) d_Mod_work_272 rfl (by decide) ?_
  refine aw_iadd (n := 274) d_Mod_work_273 rfl ?_
  refine pf_Mod_opTop (n := 277) d_Mod_work_274 rfl kf_Mod_143 ?_
  obtain ⟨σ21, eσ21, hJ⟩ := ax_letE hJ
  refine aw_let eσ21 ?_
  obtain ⟨v10, ev10, hJ⟩ := ax_letE hJ
  refine aw_iinc (n := 280) (j := 3) (v := v10) d_Mod_work_277 rfl rfl (ev10) (by decide) rfl ?_
  refine aw_goto (t := 393) d_Mod_work_280 (by decide) ?_
  obtain ⟨v11, ev11, hJ⟩ := ax_letE hJ
  refine aw_iinc (n := 396) (j := 5) (v := v11) d_Mod_work_393 rfl rfl (ev11) (by decide) rfl ?_
  refine aw_goto (t := 32) d_Mod_work_396 (by decide) ?_
  refine aw_sub [2, 3, 4, 1, 5, 0] rfl ?_
  exact hK32 _ _ _ _ _ _ hJ
set_option maxHeartbeats 1000000 in
theorem t_Mod_work_239 {N : Nat} {g : ax_G} {r9 : Int32} {s9 : St} (x : ax_X) (A : Nat → Prop) {K32 : Int32 → Int32 → Int32 → Int32 → Int32 → St → Option (Int32 × St)} (hK32 : ∀ (l3 : Int32) (l4 : Int32) (l5 : Int32) (l6 : Int32) (l7 : Int32) (σ : St), K32 l3 l4 l5 l6 l7 σ = some (r9, s9) → AW x μ_Mod_work g A (wM g) (0, 0) (ax_QI x μ_Mod_work g A (wM g) (ax_eqI r9 s9)) 32 [(0, .ref (g.2.1 32)), (3, .int l3), (4, .int l4), (5, .int l5), (6, .int l6), (7, .int l7)] [] σ) : ∀ (l3 : Int32) (l4 : Int32) (l5 : Int32) (l6 : Int32) (l7 : Int32) (l8 : Int32) (σ : St), J_Mod_work_239 N K32 l3 l4 l5 l6 l7 l8 σ = some (r9, s9) → AW x μ_Mod_work g A (wM g) (0, 0) (ax_QI x μ_Mod_work g A (wM g) (ax_eqI r9 s9)) 239 [(0, .ref (g.2.1 32)), (3, .int l3), (4, .int l4), (5, .int l5), (6, .int l6), (7, .int l7), (8, .int l8)] [] σ := by
  intro l3 l4 l5 l6 l7 l8 σ hJ
  rw [J_Mod_work_239] at hJ
  refine aw_aload_n (n := 240) d_Mod_work_239 rfl rfl 0 rfl ?_
  refine gf_Mod_ops (n := 243) d_Mod_work_240 rfl kf_Mod_60 ?_
  refine aw_aload_n (n := 244) d_Mod_work_243 rfl rfl 0 rfl ?_
  refine gf_Mod_opTop (n := 247) d_Mod_work_244 rfl kf_Mod_143 ?_
  refine aw_iload (n := 249) d_Mod_work_247 rfl 6 rfl ?_
  refine aw_bipush (n := 251) (v := 40) d_Mod_work_249 rfl (by decide) ?_
  refine aw_icmp_ne (n := 254) (t := 260) d_Mod_work_251 rfl (by decide) (fun c18 => ?_) (fun c18 => ?_)
  · rw [if_neg c18] at hJ
    refine aw_sipush (n := 263) (v := 500) d_Mod_work_260 rfl (by decide) ?_
    refine aw_iload (n := 265) d_Mod_work_263 rfl 6 rfl ?_
    refine aw_iadd (n := 266) d_Mod_work_265 rfl ?_
    refine aw_sub [0, 1, 2, 3, 4, 5] rfl ?_
    exact t_Mod_work_266 x A hK32 _ _ _ _ _ _ _ _ hJ
  · rw [if_pos c18] at hJ
    refine aw_sipush (n := 257) (v := 500) d_Mod_work_254 rfl (by decide) ?_
    refine aw_goto (t := 266) d_Mod_work_257 (by decide) ?_
    refine aw_sub [0, 1, 2, 3, 4, 5] rfl ?_
    exact t_Mod_work_266 x A hK32 _ _ _ _ _ _ _ _ hJ
set_option maxHeartbeats 1000000 in
theorem t_Mod_work_219 {N : Nat} {g : ax_G} {r9 : Int32} {s9 : St} (x : ax_X) (A : Nat → Prop) {K32 : Int32 → Int32 → Int32 → Int32 → Int32 → St → Option (Int32 × St)} (hK32 : ∀ (l3 : Int32) (l4 : Int32) (l5 : Int32) (l6 : Int32) (l7 : Int32) (σ : St), K32 l3 l4 l5 l6 l7 σ = some (r9, s9) → AW x μ_Mod_work g A (wM g) (0, 0) (ax_QI x μ_Mod_work g A (wM g) (ax_eqI r9 s9)) 32 [(0, .ref (g.2.1 32)), (3, .int l3), (4, .int l4), (5, .int l5), (6, .int l6), (7, .int l7)] [] σ) : ∀ (l3 : Int32) (l4 : Int32) (l5 : Int32) (l6 : Int32) (l7 : Int32) (l8 : Int32) (σ : St), J_Mod_work_219 N K32 l3 l4 l5 l6 l7 l8 σ = some (r9, s9) → AW x μ_Mod_work g A (wM g) (0, 0) (ax_QI x μ_Mod_work g A (wM g) (ax_eqI r9 s9)) 219 [(0, .ref (g.2.1 32)), (3, .int l3), (4, .int l4), (5, .int l5), (6, .int l6), (7, .int l7), (8, .int l8)] [] σ := by
  intro l3 l4 l5 l6 l7 l8 σ hJ
  rw [J_Mod_work_219] at hJ
  refine aw_iload (n := 221) d_Mod_work_219 rfl 6 rfl ?_
  refine aw_bipush (n := 223) (v := 40) d_Mod_work_221 rfl (by decide) ?_
  refine aw_icmp_eq (n := 226) (t := 239) d_Mod_work_223 rfl (by decide) (fun c15 => ?_) (fun c15 => ?_)
  · rw [if_pos c15] at hJ
    exact t_Mod_work_239 x A hK32 _ _ _ _ _ _ _ hJ
  · rw [if_neg c15] at hJ
    refine aw_aload_n (n := 227) d_Mod_work_226 rfl rfl 0 rfl ?_
    refine aw_dup (n := 228) d_Mod_work_227 rfl rfl ?_
    refine gf_Mod_counted (n := 231) d_Mod_work_228 rfl kf_Mod_124 ?_
    refine aw_iconst (n := 232) (v := 1) d_Mod_work_231 rfl (by decide) ?_
    refine aw_iadd (n := 233) d_Mod_work_232 rfl ?_
    refine pf_Mod_counted (n := 236) d_Mod_work_233 rfl kf_Mod_124 ?_
    obtain ⟨σ10, eσ10, hJ⟩ := ax_letE hJ
    refine aw_let eσ10 ?_
    obtain ⟨v5, ev5, hJ⟩ := ax_letE hJ
    refine aw_iinc (n := 239) (j := 5) (v := v5) d_Mod_work_236 rfl rfl (ev5) (by decide) rfl ?_
    refine aw_sub [1, 2, 3, 4, 5, 0, 6] rfl ?_
    exact t_Mod_work_239 x A hK32 _ _ _ _ _ _ _ hJ
set_option maxHeartbeats 1000000 in
theorem t_Mod_work_283 {N : Nat} {g : ax_G} {r9 : Int32} {s9 : St} (x : ax_X) (A : Nat → Prop) {K32 : Int32 → Int32 → Int32 → Int32 → Int32 → St → Option (Int32 × St)} (hK32 : ∀ (l3 : Int32) (l4 : Int32) (l5 : Int32) (l6 : Int32) (l7 : Int32) (σ : St), K32 l3 l4 l5 l6 l7 σ = some (r9, s9) → AW x μ_Mod_work g A (wM g) (0, 0) (ax_QI x μ_Mod_work g A (wM g) (ax_eqI r9 s9)) 32 [(0, .ref (g.2.1 32)), (3, .int l3), (4, .int l4), (5, .int l5), (6, .int l6), (7, .int l7)] [] σ) : ∀ (l3 : Int32) (l4 : Int32) (l5 : Int32) (l7 : Int32) (l8 : Int32) (σ : St), J_Mod_work_283 N K32 l3 l4 l5 l7 l8 σ = some (r9, s9) → AW x μ_Mod_work g A (wM g) (0, 0) (ax_QI x μ_Mod_work g A (wM g) (ax_eqI r9 s9)) 283 [(0, .ref (g.2.1 32)), (3, .int l3), (4, .int l4), (5, .int l5), (7, .int l7), (8, .int l8)] [] σ := by
  intro l3 l4 l5 l7 l8 σ hJ
  rw [J_Mod_work_283] at hJ
  refine aw_iload (n := 285) d_Mod_work_283 rfl 5 rfl ?_
  refine aw_bipush (n := 287) (v := 41) d_Mod_work_285 rfl (by decide) ?_
  refine aw_icmp_ne (n := 290) (t := 332) d_Mod_work_287 rfl (by decide) (fun c16 => ?_) (fun c16 => ?_)
  · rw [if_neg c16] at hJ
    refine aw_iload (n := 334) d_Mod_work_332 rfl 5 rfl ?_
    refine aw_bipush (n := 336) (v := 44) d_Mod_work_334 rfl (by decide) ?_
    refine aw_icmp_ne (n := 339) (t := 350) d_Mod_work_336 rfl (by decide) (fun c17 => ?_) (fun c17 => ?_)
    · rw [if_neg c17] at hJ
      refine aw_aload_n (n := 351) d_Mod_work_350 rfl rfl 0 rfl ?_
      refine aw_dup (n := 352) d_Mod_work_351 rfl rfl ?_
      refine gf_Mod_counted (n := 355) d_Mod_work_352 rfl kf_Mod_124 ?_
      refine aw_iconst (n := 356) (v := 1) d_Mod_work_355 rfl (by decide) ?_
      refine aw_iadd (n := 357) d_Mod_work_356 rfl ?_
      refine pf_Mod_counted (n := 360) d_Mod_work_357 rfl kf_Mod_124 ?_
      obtain ⟨σ11, eσ11, hJ⟩ := ax_letE hJ
      refine aw_let eσ11 ?_
      refine aw_aload_n (n := 361) d_Mod_work_360 rfl rfl 0 rfl ?_
      refine aw_iload (n := 363) d_Mod_work_361 rfl 5 rfl ?_
      obtain ⟨r1, σ12, hc3, hJ⟩ := ax_bindE hJ
      refine aw_callSi (n := 366) (c_Mod_level hc3) Y_Mod_level km_Mod_110 (by decide) (by decide) rfl rfl (Nat.le_of_ble_eq_true rfl) d_Mod_work_363 rfl (fun r9 s9 hp => ?_)
      obtain ⟨rfl, rfl⟩ := hp
      obtain ⟨σ13, hc4, hJ⟩ := ax_bindVE hJ
      refine aw_callVv (n := 369) (c_Mod_reduce hc4) 0 rfl rfl Y_Mod_reduce km_Mod_164 (by decide) (by decide) rfl rfl (Nat.le_of_ble_eq_true rfl) d_Mod_work_366 rfl (fun s9 hp => ?_)
      subst hp
      refine aw_aload_n (n := 370) d_Mod_work_369 rfl rfl 0 rfl ?_
      refine gf_Mod_ops (n := 373) d_Mod_work_370 rfl kf_Mod_60 ?_
      refine aw_aload_n (n := 374) d_Mod_work_373 rfl rfl 0 rfl ?_
      refine gf_Mod_opTop (n := 377) d_Mod_work_374 rfl kf_Mod_143 ?_
      refine aw_iload (n := 379) d_Mod_work_377 rfl 5 rfl ?_
      obtain ⟨h9, hJ⟩ := ax_need hJ
      refine as_47 (n := 380) d_Mod_work_379 rfl h9 ?_
      obtain ⟨σ14, eσ14, hJ⟩ := ax_letE hJ
      refine aw_let eσ14 ?_
      refine aw_aload_n (n := 381) d_Mod_work_380 rfl rfl 0 rfl ?_
      refine aw_dup (n := 382) d_Mod_work_381 rfl rfl ?_
      refine gf_Mod_opTop (n := 385) d_Mod_work_382 rfl kf_Mod_143 ?_
      refine aw_iconst (n := 386) (v := 1) d_Mod_work_385 rfl (by decide) ?_
      refine aw_iadd (n := 387) d_Mod_work_386 rfl ?_
      refine pf_Mod_opTop (n := 390) d_Mod_work_387 rfl kf_Mod_143 ?_
      obtain ⟨σ15, eσ15, hJ⟩ := ax_letE hJ
      refine aw_let eσ15 ?_
      refine aw_iconst (n := 391) (v := 1) d_Mod_work_390 rfl (by decide) ?_
      refine aw_istore (n := 393) d_Mod_work_391 rfl (by decide) rfl ?_
      obtain ⟨v6, ev6, hJ⟩ := ax_letE hJ
      refine aw_iinc (n := 396) (j := 5) (v := v6) d_Mod_work_393 rfl rfl (ev6) (by decide) rfl ?_
      refine aw_goto (t := 32) d_Mod_work_396 (by decide) ?_
      refine aw_sub [2, 3, 4, 5, 1, 0] rfl ?_
      exact hK32 _ _ _ _ _ _ hJ
    · rw [if_pos c17] at hJ
      refine aw_aload_n (n := 340) d_Mod_work_339 rfl rfl 0 rfl ?_
      refine aw_iconst (n := 341) (v := 1) d_Mod_work_340 rfl (by decide) ?_
      obtain ⟨σ16, hc5, hJ⟩ := ax_bindVE hJ
      refine aw_callVv (n := 344) (c_Mod_reduce hc5) 0 rfl rfl Y_Mod_reduce km_Mod_164 (by decide) (by decide) rfl rfl (Nat.le_of_ble_eq_true rfl) d_Mod_work_341 rfl (fun s9 hp => ?_)
      subst hp
      refine aw_iconst (n := 345) (v := 1) d_Mod_work_344 rfl (by decide) ?_
      refine aw_istore (n := 347) d_Mod_work_345 rfl (by decide) rfl ?_
      refine aw_goto (t := 393) d_Mod_work_347 (by decide) ?_
      obtain ⟨v7, ev7, hJ⟩ := ax_letE hJ
      refine aw_iinc (n := 396) (j := 5) (v := v7) d_Mod_work_393 rfl rfl (ev7) (by decide) rfl ?_
      refine aw_goto (t := 32) d_Mod_work_396 (by decide) ?_
      refine aw_sub [2, 3, 4, 5, 1, 0] rfl ?_
      exact hK32 _ _ _ _ _ _ hJ
  · rw [if_pos c16] at hJ
    refine aw_aload_n (n := 291) d_Mod_work_290 rfl rfl 0 rfl ?_
    refine aw_iconst (n := 292) (v := 1) d_Mod_work_291 rfl (by decide) ?_
    obtain ⟨σ17, hc6, hJ⟩ := ax_bindVE hJ
    refine aw_callVv (n := 295) (c_Mod_reduce hc6) 0 rfl rfl Y_Mod_reduce km_Mod_164 (by decide) (by decide) rfl rfl (Nat.le_of_ble_eq_true rfl) d_Mod_work_292 rfl (fun s9 hp => ?_)
    subst hp
    refine aw_aload_n (n := 296) d_Mod_work_295 rfl rfl 0 rfl ?_
    refine aw_dup (n := 297) d_Mod_work_296 rfl rfl ?_
    refine gf_Mod_opTop (n := 300) d_Mod_work_297 rfl kf_Mod_143 ?_
    refine aw_iconst (n := 301) (v := 1) d_Mod_work_300 rfl (by decide) ?_
    refine aw_isub (n := 302) d_Mod_work_301 rfl ?_
    refine pf_Mod_opTop (n := 305) d_Mod_work_302 rfl kf_Mod_143 ?_
    obtain ⟨σ18, eσ18, hJ⟩ := ax_letE hJ
    refine aw_let eσ18 ?_
    obtain ⟨v8, ev8, hJ⟩ := ax_letE hJ
    refine aw_iinc (n := 308) (j := 3) (v := v8) d_Mod_work_305 rfl rfl (ev8) (by decide) rfl ?_
    refine aw_aload_n (n := 309) d_Mod_work_308 rfl rfl 1 rfl ?_
    refine aw_aload_n (n := 310) d_Mod_work_309 rfl rfl 1 rfl ?_
    refine gf_Mod_ops (n := 313) d_Mod_work_310 rfl kf_Mod_60 ?_
    refine aw_aload_n (n := 314) d_Mod_work_313 rfl rfl 1 rfl ?_
    refine gf_Mod_opTop (n := 317) d_Mod_work_314 rfl kf_Mod_143 ?_
    obtain ⟨h10, hJ⟩ := ax_need hJ
    refine al_47 (n := 318) d_Mod_work_317 rfl h10 ?_
    refine aw_sipush (n := 321) (v := 500) d_Mod_work_318 rfl (by decide) ?_
    refine aw_isub (n := 322) d_Mod_work_321 rfl ?_
    refine aw_iload_n (n := 323) d_Mod_work_322 rfl rfl 2 rfl ?_
    obtain ⟨σ19, hc7, hJ⟩ := ax_bindVE hJ
    refine aw_callVv (n := 326) (c_Mod_close hc7) 0 rfl rfl Y_Mod_close km_Mod_168 (by decide) (by decide) rfl rfl (Nat.le_of_ble_eq_true rfl) d_Mod_work_323 rfl (fun s9 hp => ?_)
    subst hp
    refine aw_iconst (n := 327) (v := 0) d_Mod_work_326 rfl (by decide) ?_
    refine aw_istore (n := 329) d_Mod_work_327 rfl (by decide) rfl ?_
    refine aw_goto (t := 393) d_Mod_work_329 (by decide) ?_
    obtain ⟨v9, ev9, hJ⟩ := ax_letE hJ
    refine aw_iinc (n := 396) (j := 5) (v := v9) d_Mod_work_393 rfl rfl (ev9) (by decide) rfl ?_
    refine aw_goto (t := 32) d_Mod_work_396 (by decide) ?_
    refine aw_sub [3, 4, 5, 2, 1, 0] rfl ?_
    exact hK32 _ _ _ _ _ _ hJ
set_option maxHeartbeats 1000000 in
theorem t_Mod_work_198 {N : Nat} {g : ax_G} {r9 : Int32} {s9 : St} (x : ax_X) (A : Nat → Prop) {K32 : Int32 → Int32 → Int32 → Int32 → Int32 → St → Option (Int32 × St)} (hK32 : ∀ (l3 : Int32) (l4 : Int32) (l5 : Int32) (l6 : Int32) (l7 : Int32) (σ : St), K32 l3 l4 l5 l6 l7 σ = some (r9, s9) → AW x μ_Mod_work g A (wM g) (0, 0) (ax_QI x μ_Mod_work g A (wM g) (ax_eqI r9 s9)) 32 [(0, .ref (g.2.1 32)), (3, .int l3), (4, .int l4), (5, .int l5), (6, .int l6), (7, .int l7)] [] σ) : ∀ (l3 : Int32) (l4 : Int32) (l5 : Int32) (l6 : Int32) (l7 : Int32) (l8 : Int32) (σ : St), J_Mod_work_198 N K32 l3 l4 l5 l6 l7 l8 σ = some (r9, s9) → AW x μ_Mod_work g A (wM g) (0, 0) (ax_QI x μ_Mod_work g A (wM g) (ax_eqI r9 s9)) 198 [(0, .ref (g.2.1 32)), (3, .int l3), (4, .int l4), (5, .int l5), (6, .int l6), (7, .int l7), (8, .int l8)] [] σ := by
  intro l3 l4 l5 l6 l7 l8 σ hJ
  rw [J_Mod_work_198] at hJ
  refine aw_iload (n := 200) d_Mod_work_198 rfl 6 rfl ?_
  refine aw_bipush (n := 202) (v := 40) d_Mod_work_200 rfl (by decide) ?_
  refine aw_icmp_eq (n := 205) (t := 219) d_Mod_work_202 rfl (by decide) (fun c12 => ?_) (fun c12 => ?_)
  · rw [if_pos c12] at hJ
    exact t_Mod_work_219 x A hK32 _ _ _ _ _ _ _ hJ
  · rw [if_neg c12] at hJ
    refine aw_iload (n := 207) d_Mod_work_205 rfl 6 rfl ?_
    refine aw_bipush (n := 209) (v := 20) d_Mod_work_207 rfl (by decide) ?_
    refine aw_icmp_lt (n := 212) (t := 283) d_Mod_work_209 rfl (by decide) (fun c13 => ?_) (fun c13 => ?_)
    · rw [if_pos c13] at hJ
      refine aw_sub [0, 1, 2, 3, 5, 6] rfl ?_
      exact t_Mod_work_283 x A hK32 _ _ _ _ _ _ hJ
    · rw [if_neg c13] at hJ
      refine aw_iload (n := 214) d_Mod_work_212 rfl 6 rfl ?_
      refine aw_bipush (n := 216) (v := 27) d_Mod_work_214 rfl (by decide) ?_
      refine aw_icmp_gt (n := 219) (t := 283) d_Mod_work_216 rfl (by decide) (fun c14 => ?_) (fun c14 => ?_)
      · rw [if_pos c14] at hJ
        refine aw_sub [0, 1, 2, 3, 5, 6] rfl ?_
        exact t_Mod_work_283 x A hK32 _ _ _ _ _ _ hJ
      · rw [if_neg c14] at hJ
        exact t_Mod_work_219 x A hK32 _ _ _ _ _ _ _ hJ
set_option maxHeartbeats 1000000 in
theorem t_Mod_work_56 {N : Nat} {g : ax_G} {r9 : Int32} {s9 : St} (x : ax_X) (A : Nat → Prop) {K32 : Int32 → Int32 → Int32 → Int32 → Int32 → St → Option (Int32 × St)} (hK32 : ∀ (l3 : Int32) (l4 : Int32) (l5 : Int32) (l6 : Int32) (l7 : Int32) (σ : St), K32 l3 l4 l5 l6 l7 σ = some (r9, s9) → AW x μ_Mod_work g A (wM g) (0, 0) (ax_QI x μ_Mod_work g A (wM g) (ax_eqI r9 s9)) 32 [(0, .ref (g.2.1 32)), (3, .int l3), (4, .int l4), (5, .int l5), (6, .int l6), (7, .int l7)] [] σ) : ∀ (l3 : Int32) (l4 : Int32) (l5 : Int32) (l6 : Int32) (l7 : Int32) (σ : St), J_Mod_work_56 N K32 l3 l4 l5 l6 l7 σ = some (r9, s9) → AW x μ_Mod_work g A (wM g) (0, 0) (ax_QI x μ_Mod_work g A (wM g) (ax_eqI r9 s9)) 56 [(0, .ref (g.2.1 32)), (3, .int l3), (4, .int l4), (5, .int l5), (6, .int l6), (7, .int l7)] [] σ := by
  intro l3 l4 l5 l6 l7 σ hJ
  rw [J_Mod_work_56] at hJ
  refine aw_aload_n (n := 57) d_Mod_work_56 rfl rfl 0 rfl ?_
  refine gf_Mod_kind (n := 60) d_Mod_work_57 rfl kf_Mod_13 ?_
  refine aw_iload (n := 62) d_Mod_work_60 rfl 5 rfl ?_
  obtain ⟨h4, hJ⟩ := ax_need hJ
  refine al_34 (n := 63) d_Mod_work_62 rfl h4 ?_
  obtain ⟨v2, ev2, hJ⟩ := ax_letE hJ
  refine aw_top ev2 ?_
  refine aw_istore (n := 65) d_Mod_work_63 rfl (by decide) rfl ?_
  refine aw_iload (n := 67) d_Mod_work_65 rfl 0 rfl ?_
  refine aw_iconst (n := 68) (v := 1) d_Mod_work_67 rfl (by decide) ?_
  refine aw_icmp_eq (n := 71) (t := 77) d_Mod_work_68 rfl (by decide) (fun c4 => ?_) (fun c4 => ?_)
  · rw [if_pos c4] at hJ
    refine aw_sub [1, 2, 3, 4, 6, 0] rfl ?_
    exact t_Mod_work_77 x A hK32 _ _ _ _ _ _ hJ
  · rw [if_neg c4] at hJ
    refine aw_iload (n := 73) d_Mod_work_71 rfl 0 rfl ?_
    refine aw_iconst (n := 74) (v := 2) d_Mod_work_73 rfl (by decide) ?_
    refine aw_icmp_ne (n := 77) (t := 134) d_Mod_work_74 rfl (by decide) (fun c5 => ?_) (fun c5 => ?_)
    · rw [if_neg c5] at hJ
      refine aw_iload (n := 136) d_Mod_work_134 rfl 5 rfl ?_
      refine aw_if_eq (n := 139) (t := 198) d_Mod_work_136 rfl (by decide) (fun c6 => ?_) (fun c6 => ?_)
      · rw [if_pos c6] at hJ
        refine aw_sub [1, 2, 3, 4, 5, 6, 0] rfl ?_
        exact t_Mod_work_198 x A hK32 _ _ _ _ _ _ _ hJ
      · rw [if_neg c6] at hJ
        refine aw_iload (n := 141) d_Mod_work_139 rfl 0 rfl ?_
        refine aw_bipush (n := 143) (v := 45) d_Mod_work_141 rfl (by decide) ?_
        refine aw_icmp_eq (n := 146) (t := 160) d_Mod_work_143 rfl (by decide) (fun c7 => ?_) (fun c7 => ?_)
        · rw [if_pos c7] at hJ
          refine aw_sub [1, 2, 3, 4, 5, 6, 0] rfl ?_
          exact t_Mod_work_160 x A hK32 _ _ _ _ _ _ _ hJ
        · rw [if_neg c7] at hJ
          refine aw_iload (n := 148) d_Mod_work_146 rfl 0 rfl ?_
          refine aw_bipush (n := 150) (v := 33) d_Mod_work_148 rfl (by decide) ?_
          refine aw_icmp_eq (n := 153) (t := 160) d_Mod_work_150 rfl (by decide) (fun c8 => ?_) (fun c8 => ?_)
          · rw [if_pos c8] at hJ
            refine aw_sub [1, 2, 3, 4, 5, 6, 0] rfl ?_
            exact t_Mod_work_160 x A hK32 _ _ _ _ _ _ _ hJ
          · rw [if_neg c8] at hJ
            refine aw_iload (n := 155) d_Mod_work_153 rfl 0 rfl ?_
            refine aw_bipush (n := 157) (v := 64) d_Mod_work_155 rfl (by decide) ?_
            refine aw_icmp_ne (n := 160) (t := 198) d_Mod_work_157 rfl (by decide) (fun c9 => ?_) (fun c9 => ?_)
            · rw [if_neg c9] at hJ
              refine aw_sub [1, 2, 3, 4, 5, 6, 0] rfl ?_
              exact t_Mod_work_198 x A hK32 _ _ _ _ _ _ _ hJ
            · rw [if_pos c9] at hJ
              refine aw_sub [1, 2, 3, 4, 5, 6, 0] rfl ?_
              exact t_Mod_work_160 x A hK32 _ _ _ _ _ _ _ hJ
    · rw [if_pos c5] at hJ
      refine aw_sub [1, 2, 3, 4, 6, 0] rfl ?_
      exact t_Mod_work_77 x A hK32 _ _ _ _ _ _ hJ
set_option maxHeartbeats 1000000 in
theorem t_Mod_work_399 {N : Nat} {g : ax_G} {r9 : Int32} {s9 : St} (x : ax_X) (A : Nat → Prop) : ∀ (l7 : Int32) (σ : St), J_Mod_work_399 N l7 σ = some (r9, s9) → AW x μ_Mod_work g A (wM g) (0, 0) (ax_QI x μ_Mod_work g A (wM g) (ax_eqI r9 s9)) 399 [(0, .ref (g.2.1 32)), (7, .int l7)] [] σ := by
  intro l7 σ hJ
  rw [J_Mod_work_399] at hJ
  refine aw_aload_n (n := 400) d_Mod_work_399 rfl rfl 0 rfl ?_
  refine aw_iconst (n := 401) (v := 1) d_Mod_work_400 rfl (by decide) ?_
  obtain ⟨σ3, hc1, hJ⟩ := ax_bindVE hJ
  refine aw_callVv (n := 404) (c_Mod_reduce hc1) 0 rfl rfl Y_Mod_reduce km_Mod_164 (by decide) (by decide) rfl rfl (Nat.le_of_ble_eq_true rfl) d_Mod_work_401 rfl (fun s9 hp => ?_)
  subst hp
  refine aw_aload_n (n := 405) d_Mod_work_404 rfl rfl 0 rfl ?_
  refine aw_iload (n := 407) d_Mod_work_405 rfl 1 rfl ?_
  refine pf_Mod_next (n := 410) d_Mod_work_407 rfl kf_Mod_130 ?_
  obtain ⟨σ4, eσ4, hJ⟩ := ax_letE hJ
  refine aw_let eσ4 ?_
  refine aw_aload_n (n := 411) d_Mod_work_410 rfl rfl 0 rfl ?_
  refine gf_Mod_numbers (n := 414) d_Mod_work_411 rfl kf_Mod_54 ?_
  refine aw_iconst (n := 415) (v := 0) d_Mod_work_414 rfl (by decide) ?_
  obtain ⟨h3, hJ⟩ := ax_need hJ
  refine al_45 (n := 416) d_Mod_work_415 rfl h3 ?_
  exact aw_iret d_Mod_work_416 rfl (ax_ret hJ)
set_option maxHeartbeats 1000000 in
theorem t_Mod_work_32 {N : Nat} {g : ax_G} {r9 : Int32} {s9 : St} (x : ax_X) (A : Nat → Prop) : ∀ (n : Nat) (l3 : Int32) (l4 : Int32) (l5 : Int32) (l6 : Int32) (l7 : Int32) (σ : St), J_Mod_work_32 N n l3 l4 l5 l6 l7 σ = some (r9, s9) → AW x μ_Mod_work g A (wM g) (0, 0) (ax_QI x μ_Mod_work g A (wM g) (ax_eqI r9 s9)) 32 [(0, .ref (g.2.1 32)), (3, .int l3), (4, .int l4), (5, .int l5), (6, .int l6), (7, .int l7)] [] σ := by
  intro n
  induction n with
  | zero => intro l3 l4 l5 l6 l7 σ hJ; rw [J_Mod_work_32] at hJ; cases hJ
  | succ n ih =>
    intro l3 l4 l5 l6 l7 σ hJ
    rw [J_Mod_work_32] at hJ
    refine aw_iload (n := 34) d_Mod_work_32 rfl 5 rfl ?_
    refine aw_iload (n := 36) d_Mod_work_34 rfl 2 rfl ?_
    refine aw_icmp_ge (n := 39) (t := 399) d_Mod_work_36 rfl (by decide) (fun c1 => ?_) (fun c1 => ?_)
    · rw [if_pos c1] at hJ
      refine aw_sub [0, 5] rfl ?_
      exact t_Mod_work_399 x A _ _ hJ
    · rw [if_neg c1] at hJ
      refine aw_iload (n := 41) d_Mod_work_39 rfl 3 rfl ?_
      refine aw_if_gt (n := 44) (t := 56) d_Mod_work_41 rfl (by decide) (fun c2 => ?_) (fun c2 => ?_)
      · rw [if_pos c2] at hJ
        exact t_Mod_work_56 x A ih _ _ _ _ _ _ hJ
      · rw [if_neg c2] at hJ
        refine aw_aload_n (n := 45) d_Mod_work_44 rfl rfl 0 rfl ?_
        refine gf_Mod_kind (n := 48) d_Mod_work_45 rfl kf_Mod_13 ?_
        refine aw_iload (n := 50) d_Mod_work_48 rfl 5 rfl ?_
        obtain ⟨h2, hJ⟩ := ax_need hJ
        refine al_34 (n := 51) d_Mod_work_50 rfl h2 ?_
        refine aw_bipush (n := 53) (v := 44) d_Mod_work_51 rfl (by decide) ?_
        refine aw_icmp_eq (n := 56) (t := 399) d_Mod_work_53 rfl (by decide) (fun c3 => ?_) (fun c3 => ?_)
        · rw [if_pos c3] at hJ
          refine aw_sub [0, 5] rfl ?_
          exact t_Mod_work_399 x A _ _ hJ
        · rw [if_neg c3] at hJ
          exact t_Mod_work_56 x A ih _ _ _ _ _ _ hJ
set_option maxHeartbeats 1000000 in
theorem c_Mod_work {N : Nat} {g : ax_G} {a1 : Int32} {a2 : Int32} {a3 : Int32} {σ : St} {r9 : Int32} {s9 : St} (hJ : J_Mod_work N a1 a2 a3 σ = some (r9, s9)) : ax_CI μ_Mod_work g y_Mod_work (wM g) [.ref (g.2.1 32), .int a1, .int a2, .int a3] σ (ax_eqI r9 s9) := by
  refine ax_CI.of (plainFor_of_name rfl) rfl (Nat.le_of_ble_eq_true rfl) (fun x A _ => ?_)
  show AW x μ_Mod_work g A (wM g) (0, 0) (ax_QI x μ_Mod_work g A (wM g) (ax_eqI r9 s9)) 0 [(0, .ref (g.2.1 32)), (1, .int a1), (2, .int a2), (3, .int a3)] [] σ
  rw [J_Mod_work] at hJ
  refine aw_bipush (n := 2) (v := 48) d_Mod_work_0 rfl (by decide) ?_
  refine aw_iload_n (n := 3) d_Mod_work_2 rfl rfl 1 rfl ?_
  refine aw_imul (n := 4) d_Mod_work_3 rfl ?_
  refine aw_aload_n (n := 5) d_Mod_work_4 rfl rfl 0 rfl ?_
  refine gf_Mod_tokens (n := 8) d_Mod_work_5 rfl kf_Mod_23 ?_
  refine aw_iload_n (n := 9) d_Mod_work_8 rfl rfl 1 rfl ?_
  obtain ⟨h1, hJ⟩ := ax_need hJ
  refine al_37 (n := 10) d_Mod_work_9 rfl h1 ?_
  refine aw_iadd (n := 11) d_Mod_work_10 rfl ?_
  obtain ⟨v1, ev1, hJ⟩ := ax_letE hJ
  refine aw_top ev1 ?_
  refine aw_istore (n := 13) d_Mod_work_11 rfl (by decide) rfl ?_
  refine aw_aload_n (n := 14) d_Mod_work_13 rfl rfl 1 rfl ?_
  refine aw_iconst (n := 15) (v := 0) d_Mod_work_14 rfl (by decide) ?_
  refine pf_Mod_top (n := 18) d_Mod_work_15 rfl kf_Mod_140 ?_
  obtain ⟨σ1, eσ1, hJ⟩ := ax_letE hJ
  refine aw_let eσ1 ?_
  refine aw_aload_n (n := 19) d_Mod_work_18 rfl rfl 1 rfl ?_
  refine aw_iconst (n := 20) (v := 0) d_Mod_work_19 rfl (by decide) ?_
  refine pf_Mod_opTop (n := 23) d_Mod_work_20 rfl kf_Mod_143 ?_
  obtain ⟨σ2, eσ2, hJ⟩ := ax_letE hJ
  refine aw_let eσ2 ?_
  refine aw_iconst (n := 24) (v := 0) d_Mod_work_23 rfl (by decide) ?_
  refine aw_istore (n := 26) d_Mod_work_24 rfl (by decide) rfl ?_
  refine aw_iconst (n := 27) (v := 1) d_Mod_work_26 rfl (by decide) ?_
  refine aw_istore (n := 29) d_Mod_work_27 rfl (by decide) rfl ?_
  refine aw_iload_n (n := 30) d_Mod_work_29 rfl rfl 5 rfl ?_
  refine aw_istore (n := 32) d_Mod_work_30 rfl (by decide) rfl ?_
  refine aw_sub [4, 7, 3, 2, 1, 0] rfl ?_
  exact t_Mod_work_32 x A N _ _ _ _ _ _ hJ
