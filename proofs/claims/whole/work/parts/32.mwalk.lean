/-! WALKED: Mod_expressions, Mod_good, Mod_cell, Mod_rest. Printed by wip/whole/build.py. -/
abbrev b_Mod_expressions : ByteArray := prog_10_method_14_code
def y_Mod_expressions : MethodName := ⟨"DotConsoleModel", "expressions", "(III)I"⟩
theorem d_Mod_expressions_0 : decode b_Mod_expressions 0 = .ok (.iconst 0, 1) := by decide +kernel
theorem d_Mod_expressions_1 : decode b_Mod_expressions 1 = .ok (.istore 4, 2) := by decide +kernel
theorem d_Mod_expressions_3 : decode b_Mod_expressions 3 = .ok (.aload_n 0, 1) := by decide +kernel
theorem d_Mod_expressions_4 : decode b_Mod_expressions 4 = .ok (.getfield 60, 3) := by decide +kernel
theorem d_Mod_expressions_7 : decode b_Mod_expressions 7 = .ok (.iconst 0, 1) := by decide +kernel
theorem d_Mod_expressions_8 : decode b_Mod_expressions 8 = .ok (.iconst 2, 1) := by decide +kernel
theorem d_Mod_expressions_9 : decode b_Mod_expressions 9 = .ok (.iload_n 3, 1) := by decide +kernel
theorem d_Mod_expressions_10 : decode b_Mod_expressions 10 = .ok (.iconst 1, 1) := by decide +kernel
theorem d_Mod_expressions_11 : decode b_Mod_expressions 11 = .ok (.isub, 1) := by decide +kernel
theorem d_Mod_expressions_12 : decode b_Mod_expressions 12 = .ok (.imul, 1) := by decide +kernel
theorem d_Mod_expressions_13 : decode b_Mod_expressions 13 = .ok (.iastore, 1) := by decide +kernel
theorem d_Mod_expressions_14 : decode b_Mod_expressions 14 = .ok (.iconst 1, 1) := by decide +kernel
theorem d_Mod_expressions_15 : decode b_Mod_expressions 15 = .ok (.istore 5, 2) := by decide +kernel
theorem d_Mod_expressions_17 : decode b_Mod_expressions 17 = .ok (.iload_n 1, 1) := by decide +kernel
theorem d_Mod_expressions_18 : decode b_Mod_expressions 18 = .ok (.istore 6, 2) := by decide +kernel
theorem d_Mod_expressions_20 : decode b_Mod_expressions 20 = .ok (.iload 6, 2) := by decide +kernel
theorem d_Mod_expressions_22 : decode b_Mod_expressions 22 = .ok (.iload_n 2, 1) := by decide +kernel
theorem d_Mod_expressions_23 : decode b_Mod_expressions 23 = .ok (.if_icmp .ge 340, 3) := by decide +kernel
theorem d_Mod_expressions_26 : decode b_Mod_expressions 26 = .ok (.aload_n 0, 1) := by decide +kernel
theorem d_Mod_expressions_27 : decode b_Mod_expressions 27 = .ok (.getfield 13, 3) := by decide +kernel
theorem d_Mod_expressions_30 : decode b_Mod_expressions 30 = .ok (.sipush 1344, 3) := by decide +kernel
theorem d_Mod_expressions_33 : decode b_Mod_expressions 33 = .ok (.iload 6, 2) := by decide +kernel
theorem d_Mod_expressions_35 : decode b_Mod_expressions 35 = .ok (.iadd, 1) := by decide +kernel
theorem d_Mod_expressions_36 : decode b_Mod_expressions 36 = .ok (.iaload, 1) := by decide +kernel
theorem d_Mod_expressions_37 : decode b_Mod_expressions 37 = .ok (.istore 7, 2) := by decide +kernel
theorem d_Mod_expressions_39 : decode b_Mod_expressions 39 = .ok (.iload 5, 2) := by decide +kernel
theorem d_Mod_expressions_41 : decode b_Mod_expressions 41 = .ok (.ifCond .eq 156, 3) := by decide +kernel
theorem d_Mod_expressions_44 : decode b_Mod_expressions 44 = .ok (.iload 7, 2) := by decide +kernel
theorem d_Mod_expressions_46 : decode b_Mod_expressions 46 = .ok (.bipush 45, 2) := by decide +kernel
theorem d_Mod_expressions_48 : decode b_Mod_expressions 48 = .ok (.if_icmp .eq 309, 3) := by decide +kernel
theorem d_Mod_expressions_51 : decode b_Mod_expressions 51 = .ok (.iload 7, 2) := by decide +kernel
theorem d_Mod_expressions_53 : decode b_Mod_expressions 53 = .ok (.bipush 33, 2) := by decide +kernel
theorem d_Mod_expressions_55 : decode b_Mod_expressions 55 = .ok (.if_icmp .eq 302, 3) := by decide +kernel
theorem d_Mod_expressions_58 : decode b_Mod_expressions 58 = .ok (.iload 7, 2) := by decide +kernel
theorem d_Mod_expressions_60 : decode b_Mod_expressions 60 = .ok (.bipush 64, 2) := by decide +kernel
theorem d_Mod_expressions_62 : decode b_Mod_expressions 62 = .ok (.if_icmp .ne 6, 3) := by decide +kernel
theorem d_Mod_expressions_65 : decode b_Mod_expressions 65 = .ok (.goto 292, 3) := by decide +kernel
theorem d_Mod_expressions_68 : decode b_Mod_expressions 68 = .ok (.iload 7, 2) := by decide +kernel
theorem d_Mod_expressions_70 : decode b_Mod_expressions 70 = .ok (.iconst 1, 1) := by decide +kernel
theorem d_Mod_expressions_71 : decode b_Mod_expressions 71 = .ok (.if_icmp .eq 9, 3) := by decide +kernel
theorem d_Mod_expressions_74 : decode b_Mod_expressions 74 = .ok (.iload 7, 2) := by decide +kernel
theorem d_Mod_expressions_76 : decode b_Mod_expressions 76 = .ok (.iconst 2, 1) := by decide +kernel
theorem d_Mod_expressions_77 : decode b_Mod_expressions 77 = .ok (.if_icmp .ne 9, 3) := by decide +kernel
theorem d_Mod_expressions_80 : decode b_Mod_expressions 80 = .ok (.iconst 0, 1) := by decide +kernel
theorem d_Mod_expressions_81 : decode b_Mod_expressions 81 = .ok (.istore 5, 2) := by decide +kernel
theorem d_Mod_expressions_83 : decode b_Mod_expressions 83 = .ok (.goto 274, 3) := by decide +kernel
theorem d_Mod_expressions_86 : decode b_Mod_expressions 86 = .ok (.iload 7, 2) := by decide +kernel
theorem d_Mod_expressions_88 : decode b_Mod_expressions 88 = .ok (.bipush 40, 2) := by decide +kernel
theorem d_Mod_expressions_90 : decode b_Mod_expressions 90 = .ok (.if_icmp .ne 17, 3) := by decide +kernel
theorem d_Mod_expressions_93 : decode b_Mod_expressions 93 = .ok (.iinc 4 1, 3) := by decide +kernel
theorem d_Mod_expressions_96 : decode b_Mod_expressions 96 = .ok (.aload_n 0, 1) := by decide +kernel
theorem d_Mod_expressions_97 : decode b_Mod_expressions 97 = .ok (.getfield 60, 3) := by decide +kernel
theorem d_Mod_expressions_100 : decode b_Mod_expressions 100 = .ok (.iload 4, 2) := by decide +kernel
theorem d_Mod_expressions_102 : decode b_Mod_expressions 102 = .ok (.iconst 0, 1) := by decide +kernel
theorem d_Mod_expressions_103 : decode b_Mod_expressions 103 = .ok (.iastore, 1) := by decide +kernel
theorem d_Mod_expressions_104 : decode b_Mod_expressions 104 = .ok (.goto 253, 3) := by decide +kernel
theorem d_Mod_expressions_107 : decode b_Mod_expressions 107 = .ok (.iload 7, 2) := by decide +kernel
theorem d_Mod_expressions_109 : decode b_Mod_expressions 109 = .ok (.bipush 20, 2) := by decide +kernel
theorem d_Mod_expressions_111 : decode b_Mod_expressions 111 = .ok (.if_icmp .lt 83, 3) := by decide +kernel
theorem d_Mod_expressions_114 : decode b_Mod_expressions 114 = .ok (.iload 7, 2) := by decide +kernel
theorem d_Mod_expressions_116 : decode b_Mod_expressions 116 = .ok (.bipush 27, 2) := by decide +kernel
theorem d_Mod_expressions_118 : decode b_Mod_expressions 118 = .ok (.if_icmp .gt 76, 3) := by decide +kernel
theorem d_Mod_expressions_121 : decode b_Mod_expressions 121 = .ok (.iload 6, 2) := by decide +kernel
theorem d_Mod_expressions_123 : decode b_Mod_expressions 123 = .ok (.iconst 1, 1) := by decide +kernel
theorem d_Mod_expressions_124 : decode b_Mod_expressions 124 = .ok (.iadd, 1) := by decide +kernel
theorem d_Mod_expressions_125 : decode b_Mod_expressions 125 = .ok (.iload_n 2, 1) := by decide +kernel
theorem d_Mod_expressions_126 : decode b_Mod_expressions 126 = .ok (.if_icmp .ge 26, 3) := by decide +kernel
theorem d_Mod_expressions_129 : decode b_Mod_expressions 129 = .ok (.aload_n 0, 1) := by decide +kernel
theorem d_Mod_expressions_130 : decode b_Mod_expressions 130 = .ok (.getfield 13, 3) := by decide +kernel
theorem d_Mod_expressions_133 : decode b_Mod_expressions 133 = .ok (.sipush 1344, 3) := by decide +kernel
theorem d_Mod_expressions_136 : decode b_Mod_expressions 136 = .ok (.iload 6, 2) := by decide +kernel
theorem d_Mod_expressions_138 : decode b_Mod_expressions 138 = .ok (.iadd, 1) := by decide +kernel
theorem d_Mod_expressions_139 : decode b_Mod_expressions 139 = .ok (.iconst 1, 1) := by decide +kernel
theorem d_Mod_expressions_140 : decode b_Mod_expressions 140 = .ok (.iadd, 1) := by decide +kernel
theorem d_Mod_expressions_141 : decode b_Mod_expressions 141 = .ok (.iaload, 1) := by decide +kernel
theorem d_Mod_expressions_142 : decode b_Mod_expressions 142 = .ok (.bipush 40, 2) := by decide +kernel
theorem d_Mod_expressions_144 : decode b_Mod_expressions 144 = .ok (.if_icmp .eq 8, 3) := by decide +kernel
theorem d_Mod_expressions_147 : decode b_Mod_expressions 147 = .ok (.iload 6, 2) := by decide +kernel
theorem d_Mod_expressions_149 : decode b_Mod_expressions 149 = .ok (.iconst 1, 1) := by decide +kernel
theorem d_Mod_expressions_150 : decode b_Mod_expressions 150 = .ok (.iadd, 1) := by decide +kernel
theorem d_Mod_expressions_151 : decode b_Mod_expressions 151 = .ok (.ireturn, 1) := by decide +kernel
theorem d_Mod_expressions_152 : decode b_Mod_expressions 152 = .ok (.iinc 6 1, 3) := by decide +kernel
theorem d_Mod_expressions_155 : decode b_Mod_expressions 155 = .ok (.iinc 4 1, 3) := by decide +kernel
theorem d_Mod_expressions_158 : decode b_Mod_expressions 158 = .ok (.aload_n 0, 1) := by decide +kernel
theorem d_Mod_expressions_159 : decode b_Mod_expressions 159 = .ok (.getfield 60, 3) := by decide +kernel
theorem d_Mod_expressions_162 : decode b_Mod_expressions 162 = .ok (.iload 4, 2) := by decide +kernel
theorem d_Mod_expressions_164 : decode b_Mod_expressions 164 = .ok (.iload 7, 2) := by decide +kernel
theorem d_Mod_expressions_166 : decode b_Mod_expressions 166 = .ok (.bipush 24, 2) := by decide +kernel
theorem d_Mod_expressions_168 : decode b_Mod_expressions 168 = .ok (.if_icmp .eq 17, 3) := by decide +kernel
theorem d_Mod_expressions_171 : decode b_Mod_expressions 171 = .ok (.iload 7, 2) := by decide +kernel
theorem d_Mod_expressions_173 : decode b_Mod_expressions 173 = .ok (.bipush 25, 2) := by decide +kernel
theorem d_Mod_expressions_175 : decode b_Mod_expressions 175 = .ok (.if_icmp .eq 10, 3) := by decide +kernel
theorem d_Mod_expressions_178 : decode b_Mod_expressions 178 = .ok (.iload 7, 2) := by decide +kernel
theorem d_Mod_expressions_180 : decode b_Mod_expressions 180 = .ok (.bipush 26, 2) := by decide +kernel
theorem d_Mod_expressions_182 : decode b_Mod_expressions 182 = .ok (.if_icmp .ne 7, 3) := by decide +kernel
theorem d_Mod_expressions_185 : decode b_Mod_expressions 185 = .ok (.iconst 2, 1) := by decide +kernel
theorem d_Mod_expressions_186 : decode b_Mod_expressions 186 = .ok (.goto 4, 3) := by decide +kernel
theorem d_Mod_expressions_189 : decode b_Mod_expressions 189 = .ok (.iconst 0, 1) := by decide +kernel
theorem d_Mod_expressions_190 : decode b_Mod_expressions 190 = .ok (.iastore, 1) := by decide +kernel
theorem d_Mod_expressions_191 : decode b_Mod_expressions 191 = .ok (.goto 166, 3) := by decide +kernel
theorem d_Mod_expressions_194 : decode b_Mod_expressions 194 = .ok (.iload 6, 2) := by decide +kernel
theorem d_Mod_expressions_196 : decode b_Mod_expressions 196 = .ok (.ireturn, 1) := by decide +kernel
theorem d_Mod_expressions_197 : decode b_Mod_expressions 197 = .ok (.iload 7, 2) := by decide +kernel
theorem d_Mod_expressions_199 : decode b_Mod_expressions 199 = .ok (.bipush 41, 2) := by decide +kernel
theorem d_Mod_expressions_201 : decode b_Mod_expressions 201 = .ok (.if_icmp .ne 28, 3) := by decide +kernel
theorem d_Mod_expressions_204 : decode b_Mod_expressions 204 = .ok (.iload 4, 2) := by decide +kernel
theorem d_Mod_expressions_206 : decode b_Mod_expressions 206 = .ok (.ifCond .eq 14, 3) := by decide +kernel
theorem d_Mod_expressions_209 : decode b_Mod_expressions 209 = .ok (.aload_n 0, 1) := by decide +kernel
theorem d_Mod_expressions_210 : decode b_Mod_expressions 210 = .ok (.getfield 60, 3) := by decide +kernel
theorem d_Mod_expressions_213 : decode b_Mod_expressions 213 = .ok (.iload 4, 2) := by decide +kernel
theorem d_Mod_expressions_215 : decode b_Mod_expressions 215 = .ok (.iaload, 1) := by decide +kernel
theorem d_Mod_expressions_216 : decode b_Mod_expressions 216 = .ok (.iconst 1, 1) := by decide +kernel
theorem d_Mod_expressions_217 : decode b_Mod_expressions 217 = .ok (.if_icmp .le 6, 3) := by decide +kernel
theorem d_Mod_expressions_220 : decode b_Mod_expressions 220 = .ok (.iload 6, 2) := by decide +kernel
theorem d_Mod_expressions_222 : decode b_Mod_expressions 222 = .ok (.ireturn, 1) := by decide +kernel
theorem d_Mod_expressions_223 : decode b_Mod_expressions 223 = .ok (.iinc 4 (-1), 3) := by decide +kernel
theorem d_Mod_expressions_226 : decode b_Mod_expressions 226 = .ok (.goto 131, 3) := by decide +kernel
theorem d_Mod_expressions_229 : decode b_Mod_expressions 229 = .ok (.iload 7, 2) := by decide +kernel
theorem d_Mod_expressions_231 : decode b_Mod_expressions 231 = .ok (.bipush 44, 2) := by decide +kernel
theorem d_Mod_expressions_233 : decode b_Mod_expressions 233 = .ok (.if_icmp .ne 43, 3) := by decide +kernel
theorem d_Mod_expressions_236 : decode b_Mod_expressions 236 = .ok (.aload_n 0, 1) := by decide +kernel
theorem d_Mod_expressions_237 : decode b_Mod_expressions 237 = .ok (.getfield 60, 3) := by decide +kernel
theorem d_Mod_expressions_240 : decode b_Mod_expressions 240 = .ok (.iload 4, 2) := by decide +kernel
theorem d_Mod_expressions_242 : decode b_Mod_expressions 242 = .ok (.iaload, 1) := by decide +kernel
theorem d_Mod_expressions_243 : decode b_Mod_expressions 243 = .ok (.iconst 2, 1) := by decide +kernel
theorem d_Mod_expressions_244 : decode b_Mod_expressions 244 = .ok (.if_icmp .ge 6, 3) := by decide +kernel
theorem d_Mod_expressions_247 : decode b_Mod_expressions 247 = .ok (.iload 6, 2) := by decide +kernel
theorem d_Mod_expressions_249 : decode b_Mod_expressions 249 = .ok (.ireturn, 1) := by decide +kernel
theorem d_Mod_expressions_250 : decode b_Mod_expressions 250 = .ok (.aload_n 0, 1) := by decide +kernel
theorem d_Mod_expressions_251 : decode b_Mod_expressions 251 = .ok (.getfield 60, 3) := by decide +kernel
theorem d_Mod_expressions_254 : decode b_Mod_expressions 254 = .ok (.iload 4, 2) := by decide +kernel
theorem d_Mod_expressions_256 : decode b_Mod_expressions 256 = .ok (.aload_n 0, 1) := by decide +kernel
theorem d_Mod_expressions_257 : decode b_Mod_expressions 257 = .ok (.getfield 60, 3) := by decide +kernel
theorem d_Mod_expressions_260 : decode b_Mod_expressions 260 = .ok (.iload 4, 2) := by decide +kernel
theorem d_Mod_expressions_262 : decode b_Mod_expressions 262 = .ok (.iaload, 1) := by decide +kernel
theorem d_Mod_expressions_263 : decode b_Mod_expressions 263 = .ok (.iconst 2, 1) := by decide +kernel
theorem d_Mod_expressions_264 : decode b_Mod_expressions 264 = .ok (.idiv, 1) := by decide +kernel
theorem d_Mod_expressions_265 : decode b_Mod_expressions 265 = .ok (.iconst 1, 1) := by decide +kernel
theorem d_Mod_expressions_266 : decode b_Mod_expressions 266 = .ok (.isub, 1) := by decide +kernel
theorem d_Mod_expressions_267 : decode b_Mod_expressions 267 = .ok (.iconst 2, 1) := by decide +kernel
theorem d_Mod_expressions_268 : decode b_Mod_expressions 268 = .ok (.imul, 1) := by decide +kernel
theorem d_Mod_expressions_269 : decode b_Mod_expressions 269 = .ok (.iastore, 1) := by decide +kernel
theorem d_Mod_expressions_270 : decode b_Mod_expressions 270 = .ok (.iconst 1, 1) := by decide +kernel
theorem d_Mod_expressions_271 : decode b_Mod_expressions 271 = .ok (.istore 5, 2) := by decide +kernel
theorem d_Mod_expressions_273 : decode b_Mod_expressions 273 = .ok (.goto 84, 3) := by decide +kernel
theorem d_Mod_expressions_276 : decode b_Mod_expressions 276 = .ok (.iload 7, 2) := by decide +kernel
theorem d_Mod_expressions_278 : decode b_Mod_expressions 278 = .ok (.invokestatic 110, 3) := by decide +kernel
theorem d_Mod_expressions_281 : decode b_Mod_expressions 281 = .ok (.ifCond .eq 24, 3) := by decide +kernel
theorem d_Mod_expressions_284 : decode b_Mod_expressions 284 = .ok (.iload 7, 2) := by decide +kernel
theorem d_Mod_expressions_286 : decode b_Mod_expressions 286 = .ok (.invokestatic 100, 3) := by decide +kernel
theorem d_Mod_expressions_289 : decode b_Mod_expressions 289 = .ok (.ifCond .eq 19, 3) := by decide +kernel
theorem d_Mod_expressions_292 : decode b_Mod_expressions 292 = .ok (.aload_n 0, 1) := by decide +kernel
theorem d_Mod_expressions_293 : decode b_Mod_expressions 293 = .ok (.getfield 60, 3) := by decide +kernel
theorem d_Mod_expressions_296 : decode b_Mod_expressions 296 = .ok (.iload 4, 2) := by decide +kernel
theorem d_Mod_expressions_298 : decode b_Mod_expressions 298 = .ok (.iaload, 1) := by decide +kernel
theorem d_Mod_expressions_299 : decode b_Mod_expressions 299 = .ok (.iconst 2, 1) := by decide +kernel
theorem d_Mod_expressions_300 : decode b_Mod_expressions 300 = .ok (.irem, 1) := by decide +kernel
theorem d_Mod_expressions_301 : decode b_Mod_expressions 301 = .ok (.iconst 1, 1) := by decide +kernel
theorem d_Mod_expressions_302 : decode b_Mod_expressions 302 = .ok (.if_icmp .ne 6, 3) := by decide +kernel
theorem d_Mod_expressions_305 : decode b_Mod_expressions 305 = .ok (.iload 6, 2) := by decide +kernel
theorem d_Mod_expressions_307 : decode b_Mod_expressions 307 = .ok (.ireturn, 1) := by decide +kernel
theorem d_Mod_expressions_308 : decode b_Mod_expressions 308 = .ok (.iload 7, 2) := by decide +kernel
theorem d_Mod_expressions_310 : decode b_Mod_expressions 310 = .ok (.invokestatic 100, 3) := by decide +kernel
theorem d_Mod_expressions_313 : decode b_Mod_expressions 313 = .ok (.ifCond .eq 14, 3) := by decide +kernel
theorem d_Mod_expressions_316 : decode b_Mod_expressions 316 = .ok (.aload_n 0, 1) := by decide +kernel
theorem d_Mod_expressions_317 : decode b_Mod_expressions 317 = .ok (.getfield 60, 3) := by decide +kernel
theorem d_Mod_expressions_320 : decode b_Mod_expressions 320 = .ok (.iload 4, 2) := by decide +kernel
theorem d_Mod_expressions_322 : decode b_Mod_expressions 322 = .ok (.dup2, 1) := by decide +kernel
theorem d_Mod_expressions_323 : decode b_Mod_expressions 323 = .ok (.iaload, 1) := by decide +kernel
theorem d_Mod_expressions_324 : decode b_Mod_expressions 324 = .ok (.iconst 1, 1) := by decide +kernel
theorem d_Mod_expressions_325 : decode b_Mod_expressions 325 = .ok (.iadd, 1) := by decide +kernel
theorem d_Mod_expressions_326 : decode b_Mod_expressions 326 = .ok (.iastore, 1) := by decide +kernel
theorem d_Mod_expressions_327 : decode b_Mod_expressions 327 = .ok (.iload 7, 2) := by decide +kernel
theorem d_Mod_expressions_329 : decode b_Mod_expressions 329 = .ok (.invokestatic 110, 3) := by decide +kernel
theorem d_Mod_expressions_332 : decode b_Mod_expressions 332 = .ok (.iconst 3, 1) := by decide +kernel
theorem d_Mod_expressions_333 : decode b_Mod_expressions 333 = .ok (.if_icmp .ge 21, 3) := by decide +kernel
theorem d_Mod_expressions_336 : decode b_Mod_expressions 336 = .ok (.aload_n 0, 1) := by decide +kernel
theorem d_Mod_expressions_337 : decode b_Mod_expressions 337 = .ok (.getfield 60, 3) := by decide +kernel
theorem d_Mod_expressions_340 : decode b_Mod_expressions 340 = .ok (.iload 4, 2) := by decide +kernel
theorem d_Mod_expressions_342 : decode b_Mod_expressions 342 = .ok (.aload_n 0, 1) := by decide +kernel
theorem d_Mod_expressions_343 : decode b_Mod_expressions 343 = .ok (.getfield 60, 3) := by decide +kernel
theorem d_Mod_expressions_346 : decode b_Mod_expressions 346 = .ok (.iload 4, 2) := by decide +kernel
theorem d_Mod_expressions_348 : decode b_Mod_expressions 348 = .ok (.iaload, 1) := by decide +kernel
theorem d_Mod_expressions_349 : decode b_Mod_expressions 349 = .ok (.iconst 2, 1) := by decide +kernel
theorem d_Mod_expressions_350 : decode b_Mod_expressions 350 = .ok (.idiv, 1) := by decide +kernel
theorem d_Mod_expressions_351 : decode b_Mod_expressions 351 = .ok (.iconst 2, 1) := by decide +kernel
theorem d_Mod_expressions_352 : decode b_Mod_expressions 352 = .ok (.imul, 1) := by decide +kernel
theorem d_Mod_expressions_353 : decode b_Mod_expressions 353 = .ok (.iastore, 1) := by decide +kernel
theorem d_Mod_expressions_354 : decode b_Mod_expressions 354 = .ok (.iconst 1, 1) := by decide +kernel
theorem d_Mod_expressions_355 : decode b_Mod_expressions 355 = .ok (.istore 5, 2) := by decide +kernel
theorem d_Mod_expressions_357 : decode b_Mod_expressions 357 = .ok (.iinc 6 1, 3) := by decide +kernel
theorem d_Mod_expressions_360 : decode b_Mod_expressions 360 = .ok (.goto (-340), 3) := by decide +kernel
theorem d_Mod_expressions_363 : decode b_Mod_expressions 363 = .ok (.iload 5, 2) := by decide +kernel
theorem d_Mod_expressions_365 : decode b_Mod_expressions 365 = .ok (.ifCond .ne 18, 3) := by decide +kernel
theorem d_Mod_expressions_368 : decode b_Mod_expressions 368 = .ok (.iload 4, 2) := by decide +kernel
theorem d_Mod_expressions_370 : decode b_Mod_expressions 370 = .ok (.ifCond .gt 13, 3) := by decide +kernel
theorem d_Mod_expressions_373 : decode b_Mod_expressions 373 = .ok (.aload_n 0, 1) := by decide +kernel
theorem d_Mod_expressions_374 : decode b_Mod_expressions 374 = .ok (.getfield 60, 3) := by decide +kernel
theorem d_Mod_expressions_377 : decode b_Mod_expressions 377 = .ok (.iconst 0, 1) := by decide +kernel
theorem d_Mod_expressions_378 : decode b_Mod_expressions 378 = .ok (.iaload, 1) := by decide +kernel
theorem d_Mod_expressions_379 : decode b_Mod_expressions 379 = .ok (.iconst 1, 1) := by decide +kernel
theorem d_Mod_expressions_380 : decode b_Mod_expressions 380 = .ok (.if_icmp .le 9, 3) := by decide +kernel
theorem d_Mod_expressions_383 : decode b_Mod_expressions 383 = .ok (.iconst (-1), 1) := by decide +kernel
theorem d_Mod_expressions_384 : decode b_Mod_expressions 384 = .ok (.iload_n 2, 1) := by decide +kernel
theorem d_Mod_expressions_385 : decode b_Mod_expressions 385 = .ok (.isub, 1) := by decide +kernel
theorem d_Mod_expressions_386 : decode b_Mod_expressions 386 = .ok (.goto 4, 3) := by decide +kernel
theorem d_Mod_expressions_389 : decode b_Mod_expressions 389 = .ok (.iload_n 2, 1) := by decide +kernel
theorem d_Mod_expressions_390 : decode b_Mod_expressions 390 = .ok (.ireturn, 1) := by decide +kernel
def μ_Mod_expressions : ax_M := (b_Mod_expressions, 8, "DotConsoleModel", (some .int), 2, 40, 0, 0)
theorem Y_Mod_expressions : ax_YV μ_Mod_expressions y_Mod_expressions 3 := ⟨⟨ax_mem (by decide +kernel) rfl, ax_mem (by decide +kernel) rfl, by decide, by decide, by decide +kernel⟩, ax_mem (by decide +kernel) rfl, ax_mem (by decide +kernel) rfl⟩
theorem kf_Mod_60 : Cond.fieldLink "DotConsoleModel" 60 "DotConsoleModel" "ops" "[I" ∈ ax_T := ax_mem (by decide +kernel) rfl
theorem km_Mod_110 : Cond.methodLink "DotConsoleModel" 110 ⟨"DotConsoleModel", "level", "(I)I"⟩ ∈ ax_T := ax_mem (by decide +kernel) rfl
def J_Mod_expressions_152 (N : Nat) (K20 : Int32 → Int32 → Int32 → Int32 → St → Option (Int32 × St)) (l2 : Int32) (l4 : Int32) (l5 : Int32) (l6 : Int32) (l7 : Int32) (σ : St) : Option (Int32 × St) :=
  ax_let ((l6 + 1) : Int32) (fun v12 =>
  ax_let ((l4 + 1) : Int32) (fun v13 =>
  (if l7 = 24 then
  (if (inB v13 110) = true then ax_let (sA σ 14 v13.toNatClampNeg 2) (fun σ8 =>
  ax_let ((v12 + 1) : Int32) (fun v14 =>
  K20 l2 v13 l5 v14 σ8)) else none)
  else (if l7 = 25 then
  (if (inB v13 110) = true then ax_let (sA σ 14 v13.toNatClampNeg 2) (fun σ9 =>
  ax_let ((v12 + 1) : Int32) (fun v15 =>
  K20 l2 v13 l5 v15 σ9)) else none)
  else (if l7 = 26 then
  (if (inB v13 110) = true then ax_let (sA σ 14 v13.toNatClampNeg 2) (fun σ11 =>
  ax_let ((v12 + 1) : Int32) (fun v17 =>
  K20 l2 v13 l5 v17 σ11)) else none)
  else (if (inB v13 110) = true then ax_let (sA σ 14 v13.toNatClampNeg 0) (fun σ10 =>
  ax_let ((v12 + 1) : Int32) (fun v16 =>
  K20 l2 v13 l5 v16 σ10)) else none))))))
def J_Mod_expressions_327 (N : Nat) (K20 : Int32 → Int32 → Int32 → Int32 → St → Option (Int32 × St)) (l2 : Int32) (l4 : Int32) (l6 : Int32) (l7 : Int32) (σ : St) : Option (Int32 × St) :=
  ax_bind (J_Mod_level N l7 σ) (fun r4 σ12 =>
  (if 3 ≤ r4 then
  ax_let ((l6 + 1) : Int32) (fun v18 =>
  K20 l2 l4 1 v18 σ12)
  else (if (inB l4 110) = true then (if (inB l4 110) = true then ax_let (sA σ12 14 l4.toNatClampNeg (((σ12.2 14 l4.toNatClampNeg) / 2) * 2)) (fun σ13 =>
  ax_let ((l6 + 1) : Int32) (fun v19 =>
  K20 l2 l4 1 v19 σ13)) else none) else none)))
def J_Mod_expressions_308 (N : Nat) (K20 : Int32 → Int32 → Int32 → Int32 → St → Option (Int32 × St)) (l2 : Int32) (l4 : Int32) (l6 : Int32) (l7 : Int32) (σ : St) : Option (Int32 × St) :=
  ax_bind (J_Mod_relation N l7 σ) (fun r3 σ6 =>
  (if r3 = 0 then
  J_Mod_expressions_327 N K20 l2 l4 l6 l7 σ6
  else (if (inB l4 110) = true then (if (inB l4 110) = true then ax_let (sA σ6 14 l4.toNatClampNeg ((σ6.2 14 l4.toNatClampNeg) + 1)) (fun σ7 =>
  J_Mod_expressions_327 N K20 l2 l4 l6 l7 σ7) else none) else none)))
def J_Mod_expressions_20 (N : Nat) : Nat → Int32 → Int32 → Int32 → Int32 → St → Option (Int32 × St)
  | 0, _, _, _, _, _ => none
  | n + 1, l2, l4, l5, l6, σ => (if l2 ≤ l6 then
  (if l5 = 0 then
  (if 0 < l4 then
  some (((-1) - l2), σ)
  else (if (inB 0 110) = true then (if (σ.2 14 (0 : Int32).toNatClampNeg) ≤ 1 then
  some (l2, σ)
  else some (((-1) - l2), σ)) else none))
  else some (((-1) - l2), σ))
  else (if (inB (1344 + l6) 1400) = true then ax_let ((σ.2 1 (1344 + l6).toNatClampNeg) : Int32) (fun v1 =>
  (if l5 = 0 then
  (if v1 = 41 then
  (if l4 = 0 then
  some (l6, σ)
  else (if (inB l4 110) = true then (if (σ.2 14 l4.toNatClampNeg) ≤ 1 then
  ax_let ((l4 + (-1)) : Int32) (fun v3 =>
  ax_let ((l6 + 1) : Int32) (fun v4 =>
  J_Mod_expressions_20 N n l2 v3 l5 v4 σ))
  else some (l6, σ)) else none))
  else (if v1 = 44 then
  (if (inB l4 110) = true then (if 2 ≤ (σ.2 14 l4.toNatClampNeg) then
  (if (inB l4 110) = true then (if (inB l4 110) = true then ax_let (sA σ 14 l4.toNatClampNeg ((((σ.2 14 l4.toNatClampNeg) / 2) - 1) * 2)) (fun σ4 =>
  ax_let ((l6 + 1) : Int32) (fun v2 =>
  J_Mod_expressions_20 N n l2 l4 1 v2 σ4)) else none) else none)
  else some (l6, σ)) else none)
  else ax_bind (J_Mod_level N v1 σ) (fun r1 σ2 =>
  (if r1 = 0 then
  some (l6, σ2)
  else ax_bind (J_Mod_relation N v1 σ2) (fun r2 σ3 =>
  (if r2 = 0 then
  J_Mod_expressions_308 N (fun l2 l4 l5 l6 σ => J_Mod_expressions_20 N n l2 l4 l5 l6 σ) l2 l4 l6 v1 σ3
  else (if (inB l4 110) = true then (if ((σ3.2 14 l4.toNatClampNeg) - (σ3.2 14 l4.toNatClampNeg) / 2 * 2) = 1 then
  some (l6, σ3)
  else J_Mod_expressions_308 N (fun l2 l4 l5 l6 σ => J_Mod_expressions_20 N n l2 l4 l5 l6 σ) l2 l4 l6 v1 σ3) else none)))))))
  else (if v1 = 45 then
  ax_let ((l6 + 1) : Int32) (fun v5 =>
  J_Mod_expressions_20 N n l2 l4 l5 v5 σ)
  else (if v1 = 33 then
  ax_let ((l6 + 1) : Int32) (fun v6 =>
  J_Mod_expressions_20 N n l2 l4 l5 v6 σ)
  else (if v1 = 64 then
  ax_let ((l6 + 1) : Int32) (fun v11 =>
  J_Mod_expressions_20 N n l2 l4 l5 v11 σ)
  else (if v1 = 1 then
  ax_let ((l6 + 1) : Int32) (fun v7 =>
  J_Mod_expressions_20 N n l2 l4 0 v7 σ)
  else (if v1 = 2 then
  ax_let ((l6 + 1) : Int32) (fun v10 =>
  J_Mod_expressions_20 N n l2 l4 0 v10 σ)
  else (if v1 = 40 then
  ax_let ((l4 + 1) : Int32) (fun v8 =>
  (if (inB v8 110) = true then ax_let (sA σ 14 v8.toNatClampNeg 0) (fun σ5 =>
  ax_let ((l6 + 1) : Int32) (fun v9 =>
  J_Mod_expressions_20 N n l2 v8 l5 v9 σ5)) else none))
  else (if v1 < 20 then
  some (l6, σ)
  else (if 27 < v1 then
  some (l6, σ)
  else (if l2 ≤ (l6 + 1) then
  J_Mod_expressions_152 N (fun l2 l4 l5 l6 σ => J_Mod_expressions_20 N n l2 l4 l5 l6 σ) l2 l4 l5 l6 v1 σ
  else (if (inB ((1344 + l6) + 1) 1400) = true then (if (σ.2 1 ((1344 + l6) + 1).toNatClampNeg) = 40 then
  J_Mod_expressions_152 N (fun l2 l4 l5 l6 σ => J_Mod_expressions_20 N n l2 l4 l5 l6 σ) l2 l4 l5 l6 v1 σ
  else some ((l6 + 1), σ)) else none)))))))))))) else none))
def J_Mod_expressions (N : Nat) (a1 : Int32) (a2 : Int32) (a3 : Int32) (σ : St) : Option (Int32 × St) :=
  (if (inB 0 110) = true then ax_let (sA σ 14 (0 : Int32).toNatClampNeg (2 * (a3 - 1))) (fun σ1 =>
  J_Mod_expressions_20 N N a2 0 1 a1 σ1) else none)
set_option maxHeartbeats 1000000 in
theorem t_Mod_expressions_152 {N : Nat} {g : ax_G} {r9 : Int32} {s9 : St} (x : ax_X) (A : Nat → Prop) {K20 : Int32 → Int32 → Int32 → Int32 → St → Option (Int32 × St)} (hK20 : ∀ (l2 : Int32) (l4 : Int32) (l5 : Int32) (l6 : Int32) (σ : St), K20 l2 l4 l5 l6 σ = some (r9, s9) → AW x μ_Mod_expressions g A (wM g) (0, 0) (ax_QI x μ_Mod_expressions g A (wM g) (ax_eqI r9 s9)) 20 [(0, .ref (g.2.1 32)), (2, .int l2), (4, .int l4), (5, .int l5), (6, .int l6)] [] σ) : ∀ (l2 : Int32) (l4 : Int32) (l5 : Int32) (l6 : Int32) (l7 : Int32) (σ : St), J_Mod_expressions_152 N K20 l2 l4 l5 l6 l7 σ = some (r9, s9) → AW x μ_Mod_expressions g A (wM g) (0, 0) (ax_QI x μ_Mod_expressions g A (wM g) (ax_eqI r9 s9)) 152 [(0, .ref (g.2.1 32)), (2, .int l2), (4, .int l4), (5, .int l5), (6, .int l6), (7, .int l7)] [] σ := by
  intro l2 l4 l5 l6 l7 σ hJ
  rw [J_Mod_expressions_152] at hJ
  obtain ⟨v12, ev12, hJ⟩ := ax_letE hJ
  refine aw_iinc (n := 155) (j := 4) (v := v12) d_Mod_expressions_152 rfl rfl (ev12) (by decide) rfl ?_
  obtain ⟨v13, ev13, hJ⟩ := ax_letE hJ
  refine aw_iinc (n := 158) (j := 3) (v := v13) d_Mod_expressions_155 rfl rfl (ev13) (by decide) rfl ?_
  refine aw_aload_n (n := 159) d_Mod_expressions_158 rfl rfl 2 rfl ?_
  refine gf_Mod_ops (n := 162) d_Mod_expressions_159 rfl kf_Mod_60 ?_
  refine aw_iload (n := 164) d_Mod_expressions_162 rfl 0 rfl ?_
  refine aw_iload (n := 166) d_Mod_expressions_164 rfl 5 rfl ?_
  refine aw_bipush (n := 168) (v := 24) d_Mod_expressions_166 rfl (by decide) ?_
  refine aw_icmp_eq (n := 171) (t := 185) d_Mod_expressions_168 rfl (by decide) (fun c25 => ?_) (fun c25 => ?_)
  · rw [if_pos c25] at hJ
    refine aw_iconst (n := 186) (v := 2) d_Mod_expressions_185 rfl (by decide) ?_
    refine aw_goto (t := 190) d_Mod_expressions_186 (by decide) ?_
    obtain ⟨h13, hJ⟩ := ax_need hJ
    refine as_47 (n := 191) d_Mod_expressions_190 rfl h13 ?_
    obtain ⟨σ8, eσ8, hJ⟩ := ax_letE hJ
    refine aw_let eσ8 ?_
    refine aw_goto (t := 357) d_Mod_expressions_191 (by decide) ?_
    obtain ⟨v14, ev14, hJ⟩ := ax_letE hJ
    refine aw_iinc (n := 360) (j := 1) (v := v14) d_Mod_expressions_357 rfl rfl (ev14) (by decide) rfl ?_
    refine aw_goto (t := 20) d_Mod_expressions_360 (by decide) ?_
    refine aw_sub [2, 3, 1, 4, 0] rfl ?_
    exact hK20 _ _ _ _ _ hJ
  · rw [if_neg c25] at hJ
    refine aw_iload (n := 173) d_Mod_expressions_171 rfl 5 rfl ?_
    refine aw_bipush (n := 175) (v := 25) d_Mod_expressions_173 rfl (by decide) ?_
    refine aw_icmp_eq (n := 178) (t := 185) d_Mod_expressions_175 rfl (by decide) (fun c26 => ?_) (fun c26 => ?_)
    · rw [if_pos c26] at hJ
      refine aw_iconst (n := 186) (v := 2) d_Mod_expressions_185 rfl (by decide) ?_
      refine aw_goto (t := 190) d_Mod_expressions_186 (by decide) ?_
      obtain ⟨h14, hJ⟩ := ax_need hJ
      refine as_47 (n := 191) d_Mod_expressions_190 rfl h14 ?_
      obtain ⟨σ9, eσ9, hJ⟩ := ax_letE hJ
      refine aw_let eσ9 ?_
      refine aw_goto (t := 357) d_Mod_expressions_191 (by decide) ?_
      obtain ⟨v15, ev15, hJ⟩ := ax_letE hJ
      refine aw_iinc (n := 360) (j := 1) (v := v15) d_Mod_expressions_357 rfl rfl (ev15) (by decide) rfl ?_
      refine aw_goto (t := 20) d_Mod_expressions_360 (by decide) ?_
      refine aw_sub [2, 3, 1, 4, 0] rfl ?_
      exact hK20 _ _ _ _ _ hJ
    · rw [if_neg c26] at hJ
      refine aw_iload (n := 180) d_Mod_expressions_178 rfl 5 rfl ?_
      refine aw_bipush (n := 182) (v := 26) d_Mod_expressions_180 rfl (by decide) ?_
      refine aw_icmp_ne (n := 185) (t := 189) d_Mod_expressions_182 rfl (by decide) (fun c27 => ?_) (fun c27 => ?_)
      · rw [if_neg c27] at hJ
        refine aw_iconst (n := 190) (v := 0) d_Mod_expressions_189 rfl (by decide) ?_
        obtain ⟨h15, hJ⟩ := ax_need hJ
        refine as_47 (n := 191) d_Mod_expressions_190 rfl h15 ?_
        obtain ⟨σ10, eσ10, hJ⟩ := ax_letE hJ
        refine aw_let eσ10 ?_
        refine aw_goto (t := 357) d_Mod_expressions_191 (by decide) ?_
        obtain ⟨v16, ev16, hJ⟩ := ax_letE hJ
        refine aw_iinc (n := 360) (j := 1) (v := v16) d_Mod_expressions_357 rfl rfl (ev16) (by decide) rfl ?_
        refine aw_goto (t := 20) d_Mod_expressions_360 (by decide) ?_
        refine aw_sub [2, 3, 1, 4, 0] rfl ?_
        exact hK20 _ _ _ _ _ hJ
      · rw [if_pos c27] at hJ
        refine aw_iconst (n := 186) (v := 2) d_Mod_expressions_185 rfl (by decide) ?_
        refine aw_goto (t := 190) d_Mod_expressions_186 (by decide) ?_
        obtain ⟨h16, hJ⟩ := ax_need hJ
        refine as_47 (n := 191) d_Mod_expressions_190 rfl h16 ?_
        obtain ⟨σ11, eσ11, hJ⟩ := ax_letE hJ
        refine aw_let eσ11 ?_
        refine aw_goto (t := 357) d_Mod_expressions_191 (by decide) ?_
        obtain ⟨v17, ev17, hJ⟩ := ax_letE hJ
        refine aw_iinc (n := 360) (j := 1) (v := v17) d_Mod_expressions_357 rfl rfl (ev17) (by decide) rfl ?_
        refine aw_goto (t := 20) d_Mod_expressions_360 (by decide) ?_
        refine aw_sub [2, 3, 1, 4, 0] rfl ?_
        exact hK20 _ _ _ _ _ hJ
set_option maxHeartbeats 1000000 in
theorem t_Mod_expressions_327 {N : Nat} {g : ax_G} {r9 : Int32} {s9 : St} (x : ax_X) (A : Nat → Prop) {K20 : Int32 → Int32 → Int32 → Int32 → St → Option (Int32 × St)} (hK20 : ∀ (l2 : Int32) (l4 : Int32) (l5 : Int32) (l6 : Int32) (σ : St), K20 l2 l4 l5 l6 σ = some (r9, s9) → AW x μ_Mod_expressions g A (wM g) (0, 0) (ax_QI x μ_Mod_expressions g A (wM g) (ax_eqI r9 s9)) 20 [(0, .ref (g.2.1 32)), (2, .int l2), (4, .int l4), (5, .int l5), (6, .int l6)] [] σ) : ∀ (l2 : Int32) (l4 : Int32) (l6 : Int32) (l7 : Int32) (σ : St), J_Mod_expressions_327 N K20 l2 l4 l6 l7 σ = some (r9, s9) → AW x μ_Mod_expressions g A (wM g) (0, 0) (ax_QI x μ_Mod_expressions g A (wM g) (ax_eqI r9 s9)) 327 [(0, .ref (g.2.1 32)), (2, .int l2), (4, .int l4), (6, .int l6), (7, .int l7)] [] σ := by
  intro l2 l4 l6 l7 σ hJ
  rw [J_Mod_expressions_327] at hJ
  refine aw_iload (n := 329) d_Mod_expressions_327 rfl 4 rfl ?_
  obtain ⟨r4, σ12, hc4, hJ⟩ := ax_bindE hJ
  refine aw_callSi (n := 332) (c_Mod_level hc4) Y_Mod_level km_Mod_110 (by decide) (by decide) rfl rfl (Nat.le_of_ble_eq_true rfl) d_Mod_expressions_329 rfl (fun r9 s9 hp => ?_)
  obtain ⟨rfl, rfl⟩ := hp
  refine aw_iconst (n := 333) (v := 3) d_Mod_expressions_332 rfl (by decide) ?_
  refine aw_icmp_ge (n := 336) (t := 354) d_Mod_expressions_333 rfl (by decide) (fun c28 => ?_) (fun c28 => ?_)
  · rw [if_pos c28] at hJ
    refine aw_iconst (n := 355) (v := 1) d_Mod_expressions_354 rfl (by decide) ?_
    refine aw_istore (n := 357) d_Mod_expressions_355 rfl (by decide) rfl ?_
    obtain ⟨v18, ev18, hJ⟩ := ax_letE hJ
    refine aw_iinc (n := 360) (j := 4) (v := v18) d_Mod_expressions_357 rfl rfl (ev18) (by decide) rfl ?_
    refine aw_goto (t := 20) d_Mod_expressions_360 (by decide) ?_
    refine aw_sub [2, 3, 4, 1, 0] rfl ?_
    exact hK20 _ _ _ _ _ hJ
  · rw [if_neg c28] at hJ
    refine aw_aload_n (n := 337) d_Mod_expressions_336 rfl rfl 0 rfl ?_
    refine gf_Mod_ops (n := 340) d_Mod_expressions_337 rfl kf_Mod_60 ?_
    refine aw_iload (n := 342) d_Mod_expressions_340 rfl 2 rfl ?_
    refine aw_aload_n (n := 343) d_Mod_expressions_342 rfl rfl 0 rfl ?_
    refine gf_Mod_ops (n := 346) d_Mod_expressions_343 rfl kf_Mod_60 ?_
    refine aw_iload (n := 348) d_Mod_expressions_346 rfl 2 rfl ?_
    obtain ⟨h17, hJ⟩ := ax_need hJ
    refine al_47 (n := 349) d_Mod_expressions_348 rfl h17 ?_
    refine aw_iconst (n := 350) (v := 2) d_Mod_expressions_349 rfl (by decide) ?_
    refine aw_idiv (n := 351) d_Mod_expressions_350 rfl (by decide) ?_
    refine aw_iconst (n := 352) (v := 2) d_Mod_expressions_351 rfl (by decide) ?_
    refine aw_imul (n := 353) d_Mod_expressions_352 rfl ?_
    obtain ⟨h18, hJ⟩ := ax_need hJ
    refine as_47 (n := 354) d_Mod_expressions_353 rfl h18 ?_
    obtain ⟨σ13, eσ13, hJ⟩ := ax_letE hJ
    refine aw_let eσ13 ?_
    refine aw_iconst (n := 355) (v := 1) d_Mod_expressions_354 rfl (by decide) ?_
    refine aw_istore (n := 357) d_Mod_expressions_355 rfl (by decide) rfl ?_
    obtain ⟨v19, ev19, hJ⟩ := ax_letE hJ
    refine aw_iinc (n := 360) (j := 4) (v := v19) d_Mod_expressions_357 rfl rfl (ev19) (by decide) rfl ?_
    refine aw_goto (t := 20) d_Mod_expressions_360 (by decide) ?_
    refine aw_sub [2, 3, 4, 1, 0] rfl ?_
    exact hK20 _ _ _ _ _ hJ
set_option maxHeartbeats 1000000 in
theorem t_Mod_expressions_308 {N : Nat} {g : ax_G} {r9 : Int32} {s9 : St} (x : ax_X) (A : Nat → Prop) {K20 : Int32 → Int32 → Int32 → Int32 → St → Option (Int32 × St)} (hK20 : ∀ (l2 : Int32) (l4 : Int32) (l5 : Int32) (l6 : Int32) (σ : St), K20 l2 l4 l5 l6 σ = some (r9, s9) → AW x μ_Mod_expressions g A (wM g) (0, 0) (ax_QI x μ_Mod_expressions g A (wM g) (ax_eqI r9 s9)) 20 [(0, .ref (g.2.1 32)), (2, .int l2), (4, .int l4), (5, .int l5), (6, .int l6)] [] σ) : ∀ (l2 : Int32) (l4 : Int32) (l6 : Int32) (l7 : Int32) (σ : St), J_Mod_expressions_308 N K20 l2 l4 l6 l7 σ = some (r9, s9) → AW x μ_Mod_expressions g A (wM g) (0, 0) (ax_QI x μ_Mod_expressions g A (wM g) (ax_eqI r9 s9)) 308 [(0, .ref (g.2.1 32)), (2, .int l2), (4, .int l4), (6, .int l6), (7, .int l7)] [] σ := by
  intro l2 l4 l6 l7 σ hJ
  rw [J_Mod_expressions_308] at hJ
  refine aw_iload (n := 310) d_Mod_expressions_308 rfl 4 rfl ?_
  obtain ⟨r3, σ6, hc3, hJ⟩ := ax_bindE hJ
  refine aw_callSi (n := 313) (c_Mod_relation hc3) Y_Mod_relation km_Mod_100 (by decide) (by decide) rfl rfl (Nat.le_of_ble_eq_true rfl) d_Mod_expressions_310 rfl (fun r9 s9 hp => ?_)
  obtain ⟨rfl, rfl, hb2⟩ := hp
  refine aw_if_eq (n := 316) (t := 327) d_Mod_expressions_313 rfl (by decide) (fun c24 => ?_) (fun c24 => ?_)
  · rw [if_pos c24] at hJ
    exact t_Mod_expressions_327 x A hK20 _ _ _ _ _ hJ
  · rw [if_neg c24] at hJ
    refine aw_aload_n (n := 317) d_Mod_expressions_316 rfl rfl 0 rfl ?_
    refine gf_Mod_ops (n := 320) d_Mod_expressions_317 rfl kf_Mod_60 ?_
    refine aw_iload (n := 322) d_Mod_expressions_320 rfl 2 rfl ?_
    refine aw_dup2 (n := 323) d_Mod_expressions_322 rfl rfl rfl ?_
    obtain ⟨h11, hJ⟩ := ax_need hJ
    refine al_47 (n := 324) d_Mod_expressions_323 rfl h11 ?_
    refine aw_iconst (n := 325) (v := 1) d_Mod_expressions_324 rfl (by decide) ?_
    refine aw_iadd (n := 326) d_Mod_expressions_325 rfl ?_
    obtain ⟨h12, hJ⟩ := ax_need hJ
    refine as_47 (n := 327) d_Mod_expressions_326 rfl h12 ?_
    obtain ⟨σ7, eσ7, hJ⟩ := ax_letE hJ
    refine aw_let eσ7 ?_
    exact t_Mod_expressions_327 x A hK20 _ _ _ _ _ hJ
set_option maxHeartbeats 1000000 in
theorem t_Mod_expressions_20 {N : Nat} {g : ax_G} {r9 : Int32} {s9 : St} (x : ax_X) (A : Nat → Prop) : ∀ (n : Nat) (l2 : Int32) (l4 : Int32) (l5 : Int32) (l6 : Int32) (σ : St), J_Mod_expressions_20 N n l2 l4 l5 l6 σ = some (r9, s9) → AW x μ_Mod_expressions g A (wM g) (0, 0) (ax_QI x μ_Mod_expressions g A (wM g) (ax_eqI r9 s9)) 20 [(0, .ref (g.2.1 32)), (2, .int l2), (4, .int l4), (5, .int l5), (6, .int l6)] [] σ := by
  intro n
  induction n with
  | zero => intro l2 l4 l5 l6 σ hJ; rw [J_Mod_expressions_20] at hJ; cases hJ
  | succ n ih =>
    intro l2 l4 l5 l6 σ hJ
    rw [J_Mod_expressions_20] at hJ
    refine aw_iload (n := 22) d_Mod_expressions_20 rfl 4 rfl ?_
    refine aw_iload_n (n := 23) d_Mod_expressions_22 rfl rfl 1 rfl ?_
    refine aw_icmp_ge (n := 26) (t := 363) d_Mod_expressions_23 rfl (by decide) (fun c1 => ?_) (fun c1 => ?_)
    · rw [if_pos c1] at hJ
      refine aw_iload (n := 365) d_Mod_expressions_363 rfl 3 rfl ?_
      refine aw_if_ne (n := 368) (t := 383) d_Mod_expressions_365 rfl (by decide) (fun c2 => ?_) (fun c2 => ?_)
      · rw [if_neg c2] at hJ
        refine aw_iconst (n := 384) (v := -1) d_Mod_expressions_383 rfl (by decide) ?_
        refine aw_iload_n (n := 385) d_Mod_expressions_384 rfl rfl 1 rfl ?_
        refine aw_isub (n := 386) d_Mod_expressions_385 rfl ?_
        refine aw_goto (t := 390) d_Mod_expressions_386 (by decide) ?_
        exact aw_iret d_Mod_expressions_390 rfl (ax_ret hJ)
      · rw [if_pos c2] at hJ
        refine aw_iload (n := 370) d_Mod_expressions_368 rfl 2 rfl ?_
        refine aw_if_gt (n := 373) (t := 383) d_Mod_expressions_370 rfl (by decide) (fun c3 => ?_) (fun c3 => ?_)
        · rw [if_pos c3] at hJ
          refine aw_iconst (n := 384) (v := -1) d_Mod_expressions_383 rfl (by decide) ?_
          refine aw_iload_n (n := 385) d_Mod_expressions_384 rfl rfl 1 rfl ?_
          refine aw_isub (n := 386) d_Mod_expressions_385 rfl ?_
          refine aw_goto (t := 390) d_Mod_expressions_386 (by decide) ?_
          exact aw_iret d_Mod_expressions_390 rfl (ax_ret hJ)
        · rw [if_neg c3] at hJ
          refine aw_aload_n (n := 374) d_Mod_expressions_373 rfl rfl 0 rfl ?_
          refine gf_Mod_ops (n := 377) d_Mod_expressions_374 rfl kf_Mod_60 ?_
          refine aw_iconst (n := 378) (v := 0) d_Mod_expressions_377 rfl (by decide) ?_
          obtain ⟨h2, hJ⟩ := ax_need hJ
          refine al_47 (n := 379) d_Mod_expressions_378 rfl h2 ?_
          refine aw_iconst (n := 380) (v := 1) d_Mod_expressions_379 rfl (by decide) ?_
          refine aw_icmp_le (n := 383) (t := 389) d_Mod_expressions_380 rfl (by decide) (fun c4 => ?_) (fun c4 => ?_)
          · rw [if_pos c4] at hJ
            refine aw_iload_n (n := 390) d_Mod_expressions_389 rfl rfl 1 rfl ?_
            exact aw_iret d_Mod_expressions_390 rfl (ax_ret hJ)
          · rw [if_neg c4] at hJ
            refine aw_iconst (n := 384) (v := -1) d_Mod_expressions_383 rfl (by decide) ?_
            refine aw_iload_n (n := 385) d_Mod_expressions_384 rfl rfl 1 rfl ?_
            refine aw_isub (n := 386) d_Mod_expressions_385 rfl ?_
            refine aw_goto (t := 390) d_Mod_expressions_386 (by decide) ?_
            exact aw_iret d_Mod_expressions_390 rfl (ax_ret hJ)
    · rw [if_neg c1] at hJ
      refine aw_aload_n (n := 27) d_Mod_expressions_26 rfl rfl 0 rfl ?_
      refine gf_Mod_kind (n := 30) d_Mod_expressions_27 rfl kf_Mod_13 ?_
      refine aw_sipush (n := 33) (v := 1344) d_Mod_expressions_30 rfl (by decide) ?_
      refine aw_iload (n := 35) d_Mod_expressions_33 rfl 4 rfl ?_
      refine aw_iadd (n := 36) d_Mod_expressions_35 rfl ?_
      obtain ⟨h3, hJ⟩ := ax_need hJ
      refine al_34 (n := 37) d_Mod_expressions_36 rfl h3 ?_
      obtain ⟨v1, ev1, hJ⟩ := ax_letE hJ
      refine aw_top ev1 ?_
      refine aw_istore (n := 39) d_Mod_expressions_37 rfl (by decide) rfl ?_
      refine aw_iload (n := 41) d_Mod_expressions_39 rfl 4 rfl ?_
      refine aw_if_eq (n := 44) (t := 197) d_Mod_expressions_41 rfl (by decide) (fun c5 => ?_) (fun c5 => ?_)
      · rw [if_pos c5] at hJ
        refine aw_iload (n := 199) d_Mod_expressions_197 rfl 0 rfl ?_
        refine aw_bipush (n := 201) (v := 41) d_Mod_expressions_199 rfl (by decide) ?_
        refine aw_icmp_ne (n := 204) (t := 229) d_Mod_expressions_201 rfl (by decide) (fun c6 => ?_) (fun c6 => ?_)
        · rw [if_neg c6] at hJ
          refine aw_iload (n := 231) d_Mod_expressions_229 rfl 0 rfl ?_
          refine aw_bipush (n := 233) (v := 44) d_Mod_expressions_231 rfl (by decide) ?_
          refine aw_icmp_ne (n := 236) (t := 276) d_Mod_expressions_233 rfl (by decide) (fun c7 => ?_) (fun c7 => ?_)
          · rw [if_neg c7] at hJ
            refine aw_iload (n := 278) d_Mod_expressions_276 rfl 0 rfl ?_
            obtain ⟨r1, σ2, hc1, hJ⟩ := ax_bindE hJ
            refine aw_callSi (n := 281) (c_Mod_level hc1) Y_Mod_level km_Mod_110 (by decide) (by decide) rfl rfl (Nat.le_of_ble_eq_true rfl) d_Mod_expressions_278 rfl (fun r9 s9 hp => ?_)
            obtain ⟨rfl, rfl⟩ := hp
            refine aw_if_eq (n := 284) (t := 305) d_Mod_expressions_281 rfl (by decide) (fun c8 => ?_) (fun c8 => ?_)
            · rw [if_pos c8] at hJ
              refine aw_iload (n := 307) d_Mod_expressions_305 rfl 5 rfl ?_
              exact aw_iret d_Mod_expressions_307 rfl (ax_ret hJ)
            · rw [if_neg c8] at hJ
              refine aw_iload (n := 286) d_Mod_expressions_284 rfl 0 rfl ?_
              obtain ⟨r2, σ3, hc2, hJ⟩ := ax_bindE hJ
              refine aw_callSi (n := 289) (c_Mod_relation hc2) Y_Mod_relation km_Mod_100 (by decide) (by decide) rfl rfl (Nat.le_of_ble_eq_true rfl) d_Mod_expressions_286 rfl (fun r9 s9 hp => ?_)
              obtain ⟨rfl, rfl, hb1⟩ := hp
              refine aw_if_eq (n := 292) (t := 308) d_Mod_expressions_289 rfl (by decide) (fun c9 => ?_) (fun c9 => ?_)
              · rw [if_pos c9] at hJ
                refine aw_sub [1, 2, 3, 5, 0] rfl ?_
                exact t_Mod_expressions_308 x A ih _ _ _ _ _ hJ
              · rw [if_neg c9] at hJ
                refine aw_aload_n (n := 293) d_Mod_expressions_292 rfl rfl 1 rfl ?_
                refine gf_Mod_ops (n := 296) d_Mod_expressions_293 rfl kf_Mod_60 ?_
                refine aw_iload (n := 298) d_Mod_expressions_296 rfl 3 rfl ?_
                obtain ⟨h4, hJ⟩ := ax_need hJ
                refine al_47 (n := 299) d_Mod_expressions_298 rfl h4 ?_
                refine aw_iconst (n := 300) (v := 2) d_Mod_expressions_299 rfl (by decide) ?_
                refine aw_irem (n := 301) d_Mod_expressions_300 rfl (by decide) ?_
                refine aw_iconst (n := 302) (v := 1) d_Mod_expressions_301 rfl (by decide) ?_
                refine aw_icmp_ne (n := 305) (t := 308) d_Mod_expressions_302 rfl (by decide) (fun c10 => ?_) (fun c10 => ?_)
                · rw [if_neg c10] at hJ
                  refine aw_sub [1, 2, 3, 5, 0] rfl ?_
                  exact t_Mod_expressions_308 x A ih _ _ _ _ _ hJ
                · rw [if_pos c10] at hJ
                  refine aw_iload (n := 307) d_Mod_expressions_305 rfl 5 rfl ?_
                  exact aw_iret d_Mod_expressions_307 rfl (ax_ret hJ)
          · rw [if_pos c7] at hJ
            refine aw_aload_n (n := 237) d_Mod_expressions_236 rfl rfl 1 rfl ?_
            refine gf_Mod_ops (n := 240) d_Mod_expressions_237 rfl kf_Mod_60 ?_
            refine aw_iload (n := 242) d_Mod_expressions_240 rfl 3 rfl ?_
            obtain ⟨h5, hJ⟩ := ax_need hJ
            refine al_47 (n := 243) d_Mod_expressions_242 rfl h5 ?_
            refine aw_iconst (n := 244) (v := 2) d_Mod_expressions_243 rfl (by decide) ?_
            refine aw_icmp_ge (n := 247) (t := 250) d_Mod_expressions_244 rfl (by decide) (fun c11 => ?_) (fun c11 => ?_)
            · rw [if_pos c11] at hJ
              refine aw_aload_n (n := 251) d_Mod_expressions_250 rfl rfl 1 rfl ?_
              refine gf_Mod_ops (n := 254) d_Mod_expressions_251 rfl kf_Mod_60 ?_
              refine aw_iload (n := 256) d_Mod_expressions_254 rfl 3 rfl ?_
              refine aw_aload_n (n := 257) d_Mod_expressions_256 rfl rfl 1 rfl ?_
              refine gf_Mod_ops (n := 260) d_Mod_expressions_257 rfl kf_Mod_60 ?_
              refine aw_iload (n := 262) d_Mod_expressions_260 rfl 3 rfl ?_
              obtain ⟨h6, hJ⟩ := ax_need hJ
              refine al_47 (n := 263) d_Mod_expressions_262 rfl h6 ?_
              refine aw_iconst (n := 264) (v := 2) d_Mod_expressions_263 rfl (by decide) ?_
              refine aw_idiv (n := 265) d_Mod_expressions_264 rfl (by decide) ?_
              refine aw_iconst (n := 266) (v := 1) d_Mod_expressions_265 rfl (by decide) ?_
              refine aw_isub (n := 267) d_Mod_expressions_266 rfl ?_
              refine aw_iconst (n := 268) (v := 2) d_Mod_expressions_267 rfl (by decide) ?_
              refine aw_imul (n := 269) d_Mod_expressions_268 rfl ?_
              obtain ⟨h7, hJ⟩ := ax_need hJ
              refine as_47 (n := 270) d_Mod_expressions_269 rfl h7 ?_
              obtain ⟨σ4, eσ4, hJ⟩ := ax_letE hJ
              refine aw_let eσ4 ?_
              refine aw_iconst (n := 271) (v := 1) d_Mod_expressions_270 rfl (by decide) ?_
              refine aw_istore (n := 273) d_Mod_expressions_271 rfl (by decide) rfl ?_
              refine aw_goto (t := 357) d_Mod_expressions_273 (by decide) ?_
              obtain ⟨v2, ev2, hJ⟩ := ax_letE hJ
              refine aw_iinc (n := 360) (j := 5) (v := v2) d_Mod_expressions_357 rfl rfl (ev2) (by decide) rfl ?_
              refine aw_goto (t := 20) d_Mod_expressions_360 (by decide) ?_
              refine aw_sub [3, 4, 5, 1, 0] rfl ?_
              exact ih _ _ _ _ _ hJ
            · rw [if_neg c11] at hJ
              refine aw_iload (n := 249) d_Mod_expressions_247 rfl 5 rfl ?_
              exact aw_iret d_Mod_expressions_249 rfl (ax_ret hJ)
        · rw [if_pos c6] at hJ
          refine aw_iload (n := 206) d_Mod_expressions_204 rfl 3 rfl ?_
          refine aw_if_eq (n := 209) (t := 220) d_Mod_expressions_206 rfl (by decide) (fun c12 => ?_) (fun c12 => ?_)
          · rw [if_pos c12] at hJ
            refine aw_iload (n := 222) d_Mod_expressions_220 rfl 5 rfl ?_
            exact aw_iret d_Mod_expressions_222 rfl (ax_ret hJ)
          · rw [if_neg c12] at hJ
            refine aw_aload_n (n := 210) d_Mod_expressions_209 rfl rfl 1 rfl ?_
            refine gf_Mod_ops (n := 213) d_Mod_expressions_210 rfl kf_Mod_60 ?_
            refine aw_iload (n := 215) d_Mod_expressions_213 rfl 3 rfl ?_
            obtain ⟨h8, hJ⟩ := ax_need hJ
            refine al_47 (n := 216) d_Mod_expressions_215 rfl h8 ?_
            refine aw_iconst (n := 217) (v := 1) d_Mod_expressions_216 rfl (by decide) ?_
            refine aw_icmp_le (n := 220) (t := 223) d_Mod_expressions_217 rfl (by decide) (fun c13 => ?_) (fun c13 => ?_)
            · rw [if_pos c13] at hJ
              obtain ⟨v3, ev3, hJ⟩ := ax_letE hJ
              refine aw_iinc (n := 226) (j := 3) (v := v3) d_Mod_expressions_223 rfl rfl (ev3) (by decide) rfl ?_
              refine aw_goto (t := 357) d_Mod_expressions_226 (by decide) ?_
              obtain ⟨v4, ev4, hJ⟩ := ax_letE hJ
              refine aw_iinc (n := 360) (j := 5) (v := v4) d_Mod_expressions_357 rfl rfl (ev4) (by decide) rfl ?_
              refine aw_goto (t := 20) d_Mod_expressions_360 (by decide) ?_
              refine aw_sub [3, 4, 1, 5, 0] rfl ?_
              exact ih _ _ _ _ _ hJ
            · rw [if_neg c13] at hJ
              refine aw_iload (n := 222) d_Mod_expressions_220 rfl 5 rfl ?_
              exact aw_iret d_Mod_expressions_222 rfl (ax_ret hJ)
      · rw [if_neg c5] at hJ
        refine aw_iload (n := 46) d_Mod_expressions_44 rfl 0 rfl ?_
        refine aw_bipush (n := 48) (v := 45) d_Mod_expressions_46 rfl (by decide) ?_
        refine aw_icmp_eq (n := 51) (t := 357) d_Mod_expressions_48 rfl (by decide) (fun c14 => ?_) (fun c14 => ?_)
        · rw [if_pos c14] at hJ
          obtain ⟨v5, ev5, hJ⟩ := ax_letE hJ
          refine aw_iinc (n := 360) (j := 5) (v := v5) d_Mod_expressions_357 rfl rfl (ev5) (by decide) rfl ?_
          refine aw_goto (t := 20) d_Mod_expressions_360 (by decide) ?_
          refine aw_sub [2, 3, 4, 5, 0] rfl ?_
          exact ih _ _ _ _ _ hJ
        · rw [if_neg c14] at hJ
          refine aw_iload (n := 53) d_Mod_expressions_51 rfl 0 rfl ?_
          refine aw_bipush (n := 55) (v := 33) d_Mod_expressions_53 rfl (by decide) ?_
          refine aw_icmp_eq (n := 58) (t := 357) d_Mod_expressions_55 rfl (by decide) (fun c15 => ?_) (fun c15 => ?_)
          · rw [if_pos c15] at hJ
            obtain ⟨v6, ev6, hJ⟩ := ax_letE hJ
            refine aw_iinc (n := 360) (j := 5) (v := v6) d_Mod_expressions_357 rfl rfl (ev6) (by decide) rfl ?_
            refine aw_goto (t := 20) d_Mod_expressions_360 (by decide) ?_
            refine aw_sub [2, 3, 4, 5, 0] rfl ?_
            exact ih _ _ _ _ _ hJ
          · rw [if_neg c15] at hJ
            refine aw_iload (n := 60) d_Mod_expressions_58 rfl 0 rfl ?_
            refine aw_bipush (n := 62) (v := 64) d_Mod_expressions_60 rfl (by decide) ?_
            refine aw_icmp_ne (n := 65) (t := 68) d_Mod_expressions_62 rfl (by decide) (fun c16 => ?_) (fun c16 => ?_)
            · rw [if_neg c16] at hJ
              refine aw_iload (n := 70) d_Mod_expressions_68 rfl 0 rfl ?_
              refine aw_iconst (n := 71) (v := 1) d_Mod_expressions_70 rfl (by decide) ?_
              refine aw_icmp_eq (n := 74) (t := 80) d_Mod_expressions_71 rfl (by decide) (fun c17 => ?_) (fun c17 => ?_)
              · rw [if_pos c17] at hJ
                refine aw_iconst (n := 81) (v := 0) d_Mod_expressions_80 rfl (by decide) ?_
                refine aw_istore (n := 83) d_Mod_expressions_81 rfl (by decide) rfl ?_
                refine aw_goto (t := 357) d_Mod_expressions_83 (by decide) ?_
                obtain ⟨v7, ev7, hJ⟩ := ax_letE hJ
                refine aw_iinc (n := 360) (j := 5) (v := v7) d_Mod_expressions_357 rfl rfl (ev7) (by decide) rfl ?_
                refine aw_goto (t := 20) d_Mod_expressions_360 (by decide) ?_
                refine aw_sub [3, 4, 5, 1, 0] rfl ?_
                exact ih _ _ _ _ _ hJ
              · rw [if_neg c17] at hJ
                refine aw_iload (n := 76) d_Mod_expressions_74 rfl 0 rfl ?_
                refine aw_iconst (n := 77) (v := 2) d_Mod_expressions_76 rfl (by decide) ?_
                refine aw_icmp_ne (n := 80) (t := 86) d_Mod_expressions_77 rfl (by decide) (fun c18 => ?_) (fun c18 => ?_)
                · rw [if_neg c18] at hJ
                  refine aw_iload (n := 88) d_Mod_expressions_86 rfl 0 rfl ?_
                  refine aw_bipush (n := 90) (v := 40) d_Mod_expressions_88 rfl (by decide) ?_
                  refine aw_icmp_ne (n := 93) (t := 107) d_Mod_expressions_90 rfl (by decide) (fun c19 => ?_) (fun c19 => ?_)
                  · rw [if_neg c19] at hJ
                    refine aw_iload (n := 109) d_Mod_expressions_107 rfl 0 rfl ?_
                    refine aw_bipush (n := 111) (v := 20) d_Mod_expressions_109 rfl (by decide) ?_
                    refine aw_icmp_lt (n := 114) (t := 194) d_Mod_expressions_111 rfl (by decide) (fun c20 => ?_) (fun c20 => ?_)
                    · rw [if_pos c20] at hJ
                      refine aw_iload (n := 196) d_Mod_expressions_194 rfl 5 rfl ?_
                      exact aw_iret d_Mod_expressions_196 rfl (ax_ret hJ)
                    · rw [if_neg c20] at hJ
                      refine aw_iload (n := 116) d_Mod_expressions_114 rfl 0 rfl ?_
                      refine aw_bipush (n := 118) (v := 27) d_Mod_expressions_116 rfl (by decide) ?_
                      refine aw_icmp_gt (n := 121) (t := 194) d_Mod_expressions_118 rfl (by decide) (fun c21 => ?_) (fun c21 => ?_)
                      · rw [if_pos c21] at hJ
                        refine aw_iload (n := 196) d_Mod_expressions_194 rfl 5 rfl ?_
                        exact aw_iret d_Mod_expressions_196 rfl (ax_ret hJ)
                      · rw [if_neg c21] at hJ
                        refine aw_iload (n := 123) d_Mod_expressions_121 rfl 5 rfl ?_
                        refine aw_iconst (n := 124) (v := 1) d_Mod_expressions_123 rfl (by decide) ?_
                        refine aw_iadd (n := 125) d_Mod_expressions_124 rfl ?_
                        refine aw_iload_n (n := 126) d_Mod_expressions_125 rfl rfl 2 rfl ?_
                        refine aw_icmp_ge (n := 129) (t := 152) d_Mod_expressions_126 rfl (by decide) (fun c22 => ?_) (fun c22 => ?_)
                        · rw [if_pos c22] at hJ
                          refine aw_sub [1, 2, 3, 4, 5, 0] rfl ?_
                          exact t_Mod_expressions_152 x A ih _ _ _ _ _ _ hJ
                        · rw [if_neg c22] at hJ
                          refine aw_aload_n (n := 130) d_Mod_expressions_129 rfl rfl 1 rfl ?_
                          refine gf_Mod_kind (n := 133) d_Mod_expressions_130 rfl kf_Mod_13 ?_
                          refine aw_sipush (n := 136) (v := 1344) d_Mod_expressions_133 rfl (by decide) ?_
                          refine aw_iload (n := 138) d_Mod_expressions_136 rfl 5 rfl ?_
                          refine aw_iadd (n := 139) d_Mod_expressions_138 rfl ?_
                          refine aw_iconst (n := 140) (v := 1) d_Mod_expressions_139 rfl (by decide) ?_
                          refine aw_iadd (n := 141) d_Mod_expressions_140 rfl ?_
                          obtain ⟨h9, hJ⟩ := ax_need hJ
                          refine al_34 (n := 142) d_Mod_expressions_141 rfl h9 ?_
                          refine aw_bipush (n := 144) (v := 40) d_Mod_expressions_142 rfl (by decide) ?_
                          refine aw_icmp_eq (n := 147) (t := 152) d_Mod_expressions_144 rfl (by decide) (fun c23 => ?_) (fun c23 => ?_)
                          · rw [if_pos c23] at hJ
                            refine aw_sub [1, 2, 3, 4, 5, 0] rfl ?_
                            exact t_Mod_expressions_152 x A ih _ _ _ _ _ _ hJ
                          · rw [if_neg c23] at hJ
                            refine aw_iload (n := 149) d_Mod_expressions_147 rfl 5 rfl ?_
                            refine aw_iconst (n := 150) (v := 1) d_Mod_expressions_149 rfl (by decide) ?_
                            refine aw_iadd (n := 151) d_Mod_expressions_150 rfl ?_
                            exact aw_iret d_Mod_expressions_151 rfl (ax_ret hJ)
                  · rw [if_pos c19] at hJ
                    obtain ⟨v8, ev8, hJ⟩ := ax_letE hJ
                    refine aw_iinc (n := 96) (j := 3) (v := v8) d_Mod_expressions_93 rfl rfl (ev8) (by decide) rfl ?_
                    refine aw_aload_n (n := 97) d_Mod_expressions_96 rfl rfl 2 rfl ?_
                    refine gf_Mod_ops (n := 100) d_Mod_expressions_97 rfl kf_Mod_60 ?_
                    refine aw_iload (n := 102) d_Mod_expressions_100 rfl 0 rfl ?_
                    refine aw_iconst (n := 103) (v := 0) d_Mod_expressions_102 rfl (by decide) ?_
                    obtain ⟨h10, hJ⟩ := ax_need hJ
                    refine as_47 (n := 104) d_Mod_expressions_103 rfl h10 ?_
                    obtain ⟨σ5, eσ5, hJ⟩ := ax_letE hJ
                    refine aw_let eσ5 ?_
                    refine aw_goto (t := 357) d_Mod_expressions_104 (by decide) ?_
                    obtain ⟨v9, ev9, hJ⟩ := ax_letE hJ
                    refine aw_iinc (n := 360) (j := 5) (v := v9) d_Mod_expressions_357 rfl rfl (ev9) (by decide) rfl ?_
                    refine aw_goto (t := 20) d_Mod_expressions_360 (by decide) ?_
                    refine aw_sub [3, 4, 1, 5, 0] rfl ?_
                    exact ih _ _ _ _ _ hJ
                · rw [if_pos c18] at hJ
                  refine aw_iconst (n := 81) (v := 0) d_Mod_expressions_80 rfl (by decide) ?_
                  refine aw_istore (n := 83) d_Mod_expressions_81 rfl (by decide) rfl ?_
                  refine aw_goto (t := 357) d_Mod_expressions_83 (by decide) ?_
                  obtain ⟨v10, ev10, hJ⟩ := ax_letE hJ
                  refine aw_iinc (n := 360) (j := 5) (v := v10) d_Mod_expressions_357 rfl rfl (ev10) (by decide) rfl ?_
                  refine aw_goto (t := 20) d_Mod_expressions_360 (by decide) ?_
                  refine aw_sub [3, 4, 5, 1, 0] rfl ?_
                  exact ih _ _ _ _ _ hJ
            · rw [if_pos c16] at hJ
              refine aw_goto (t := 357) d_Mod_expressions_65 (by decide) ?_
              obtain ⟨v11, ev11, hJ⟩ := ax_letE hJ
              refine aw_iinc (n := 360) (j := 5) (v := v11) d_Mod_expressions_357 rfl rfl (ev11) (by decide) rfl ?_
              refine aw_goto (t := 20) d_Mod_expressions_360 (by decide) ?_
              refine aw_sub [2, 3, 4, 5, 0] rfl ?_
              exact ih _ _ _ _ _ hJ
set_option maxHeartbeats 1000000 in
theorem c_Mod_expressions {N : Nat} {g : ax_G} {a1 : Int32} {a2 : Int32} {a3 : Int32} {σ : St} {r9 : Int32} {s9 : St} (hJ : J_Mod_expressions N a1 a2 a3 σ = some (r9, s9)) : ax_CI μ_Mod_expressions g y_Mod_expressions (wM g) [.ref (g.2.1 32), .int a1, .int a2, .int a3] σ (ax_eqI r9 s9) := by
  refine ax_CI.of (plainFor_of_name rfl) rfl (Nat.le_of_ble_eq_true rfl) (fun x A _ => ?_)
  show AW x μ_Mod_expressions g A (wM g) (0, 0) (ax_QI x μ_Mod_expressions g A (wM g) (ax_eqI r9 s9)) 0 [(0, .ref (g.2.1 32)), (1, .int a1), (2, .int a2), (3, .int a3)] [] σ
  rw [J_Mod_expressions] at hJ
  refine aw_iconst (n := 1) (v := 0) d_Mod_expressions_0 rfl (by decide) ?_
  refine aw_istore (n := 3) d_Mod_expressions_1 rfl (by decide) rfl ?_
  refine aw_aload_n (n := 4) d_Mod_expressions_3 rfl rfl 1 rfl ?_
  refine gf_Mod_ops (n := 7) d_Mod_expressions_4 rfl kf_Mod_60 ?_
  refine aw_iconst (n := 8) (v := 0) d_Mod_expressions_7 rfl (by decide) ?_
  refine aw_iconst (n := 9) (v := 2) d_Mod_expressions_8 rfl (by decide) ?_
  refine aw_iload_n (n := 10) d_Mod_expressions_9 rfl rfl 4 rfl ?_
  refine aw_iconst (n := 11) (v := 1) d_Mod_expressions_10 rfl (by decide) ?_
  refine aw_isub (n := 12) d_Mod_expressions_11 rfl ?_
  refine aw_imul (n := 13) d_Mod_expressions_12 rfl ?_
  obtain ⟨h1, hJ⟩ := ax_need hJ
  refine as_47 (n := 14) d_Mod_expressions_13 rfl h1 ?_
  obtain ⟨σ1, eσ1, hJ⟩ := ax_letE hJ
  refine aw_let eσ1 ?_
  refine aw_iconst (n := 15) (v := 1) d_Mod_expressions_14 rfl (by decide) ?_
  refine aw_istore (n := 17) d_Mod_expressions_15 rfl (by decide) rfl ?_
  refine aw_iload_n (n := 18) d_Mod_expressions_17 rfl rfl 3 rfl ?_
  refine aw_istore (n := 20) d_Mod_expressions_18 rfl (by decide) rfl ?_
  refine aw_sub [3, 5, 2, 1, 0] rfl ?_
  exact t_Mod_expressions_20 x A N _ _ _ _ _ hJ
abbrev b_Mod_good : ByteArray := prog_10_method_13_code
def y_Mod_good : MethodName := ⟨"DotConsoleModel", "good", "()I"⟩
theorem d_Mod_good_0 : decode b_Mod_good 0 = .ok (.aload_n 0, 1) := by decide +kernel
theorem d_Mod_good_1 : decode b_Mod_good 1 = .ok (.getfield 23, 3) := by decide +kernel
theorem d_Mod_good_4 : decode b_Mod_good 4 = .ok (.bipush 28, 2) := by decide +kernel
theorem d_Mod_good_6 : decode b_Mod_good 6 = .ok (.iaload, 1) := by decide +kernel
theorem d_Mod_good_7 : decode b_Mod_good 7 = .ok (.istore_n 1, 1) := by decide +kernel
theorem d_Mod_good_8 : decode b_Mod_good 8 = .ok (.iload_n 1, 1) := by decide +kernel
theorem d_Mod_good_9 : decode b_Mod_good 9 = .ok (.ifCond .ne 5, 3) := by decide +kernel
theorem d_Mod_good_12 : decode b_Mod_good 12 = .ok (.iconst (-1), 1) := by decide +kernel
theorem d_Mod_good_13 : decode b_Mod_good 13 = .ok (.ireturn, 1) := by decide +kernel
theorem d_Mod_good_14 : decode b_Mod_good 14 = .ok (.aload_n 0, 1) := by decide +kernel
theorem d_Mod_good_15 : decode b_Mod_good 15 = .ok (.getfield 13, 3) := by decide +kernel
theorem d_Mod_good_18 : decode b_Mod_good 18 = .ok (.sipush 1344, 3) := by decide +kernel
theorem d_Mod_good_21 : decode b_Mod_good 21 = .ok (.iaload, 1) := by decide +kernel
theorem d_Mod_good_22 : decode b_Mod_good 22 = .ok (.istore_n 2, 1) := by decide +kernel
theorem d_Mod_good_23 : decode b_Mod_good 23 = .ok (.iconst 1, 1) := by decide +kernel
theorem d_Mod_good_24 : decode b_Mod_good 24 = .ok (.istore_n 3, 1) := by decide +kernel
theorem d_Mod_good_25 : decode b_Mod_good 25 = .ok (.iload_n 2, 1) := by decide +kernel
theorem d_Mod_good_26 : decode b_Mod_good 26 = .ok (.iconst 2, 1) := by decide +kernel
theorem d_Mod_good_27 : decode b_Mod_good 27 = .ok (.if_icmp .ne 31, 3) := by decide +kernel
theorem d_Mod_good_30 : decode b_Mod_good 30 = .ok (.iload_n 1, 1) := by decide +kernel
theorem d_Mod_good_31 : decode b_Mod_good 31 = .ok (.iconst 1, 1) := by decide +kernel
theorem d_Mod_good_32 : decode b_Mod_good 32 = .ok (.if_icmp .ne 6, 3) := by decide +kernel
theorem d_Mod_good_35 : decode b_Mod_good 35 = .ok (.bipush (-2), 2) := by decide +kernel
theorem d_Mod_good_37 : decode b_Mod_good 37 = .ok (.ireturn, 1) := by decide +kernel
theorem d_Mod_good_38 : decode b_Mod_good 38 = .ok (.aload_n 0, 1) := by decide +kernel
theorem d_Mod_good_39 : decode b_Mod_good 39 = .ok (.getfield 13, 3) := by decide +kernel
theorem d_Mod_good_42 : decode b_Mod_good 42 = .ok (.sipush 1345, 3) := by decide +kernel
theorem d_Mod_good_45 : decode b_Mod_good 45 = .ok (.iaload, 1) := by decide +kernel
theorem d_Mod_good_46 : decode b_Mod_good 46 = .ok (.bipush 61, 2) := by decide +kernel
theorem d_Mod_good_48 : decode b_Mod_good 48 = .ok (.if_icmp .eq 5, 3) := by decide +kernel
theorem d_Mod_good_51 : decode b_Mod_good 51 = .ok (.iconst 1, 1) := by decide +kernel
theorem d_Mod_good_52 : decode b_Mod_good 52 = .ok (.ireturn, 1) := by decide +kernel
theorem d_Mod_good_53 : decode b_Mod_good 53 = .ok (.iconst 2, 1) := by decide +kernel
theorem d_Mod_good_54 : decode b_Mod_good 54 = .ok (.istore_n 3, 1) := by decide +kernel
theorem d_Mod_good_55 : decode b_Mod_good 55 = .ok (.goto 17, 3) := by decide +kernel
theorem d_Mod_good_58 : decode b_Mod_good 58 = .ok (.iload_n 2, 1) := by decide +kernel
theorem d_Mod_good_59 : decode b_Mod_good 59 = .ok (.bipush 10, 2) := by decide +kernel
theorem d_Mod_good_61 : decode b_Mod_good 61 = .ok (.if_icmp .lt 9, 3) := by decide +kernel
theorem d_Mod_good_64 : decode b_Mod_good 64 = .ok (.iload_n 2, 1) := by decide +kernel
theorem d_Mod_good_65 : decode b_Mod_good 65 = .ok (.bipush 18, 2) := by decide +kernel
theorem d_Mod_good_67 : decode b_Mod_good 67 = .ok (.if_icmp .le 5, 3) := by decide +kernel
theorem d_Mod_good_70 : decode b_Mod_good 70 = .ok (.iconst 0, 1) := by decide +kernel
theorem d_Mod_good_71 : decode b_Mod_good 71 = .ok (.ireturn, 1) := by decide +kernel
theorem d_Mod_good_72 : decode b_Mod_good 72 = .ok (.iload_n 2, 1) := by decide +kernel
theorem d_Mod_good_73 : decode b_Mod_good 73 = .ok (.iconst 2, 1) := by decide +kernel
theorem d_Mod_good_74 : decode b_Mod_good 74 = .ok (.if_icmp .ne 7, 3) := by decide +kernel
theorem d_Mod_good_77 : decode b_Mod_good 77 = .ok (.iconst 1, 1) := by decide +kernel
theorem d_Mod_good_78 : decode b_Mod_good 78 = .ok (.goto 7, 3) := by decide +kernel
theorem d_Mod_good_81 : decode b_Mod_good 81 = .ok (.iload_n 2, 1) := by decide +kernel
theorem d_Mod_good_82 : decode b_Mod_good 82 = .ok (.invokestatic 103, 3) := by decide +kernel
theorem d_Mod_good_85 : decode b_Mod_good 85 = .ok (.istore 4, 2) := by decide +kernel
theorem d_Mod_good_87 : decode b_Mod_good 87 = .ok (.iload 4, 2) := by decide +kernel
theorem d_Mod_good_89 : decode b_Mod_good 89 = .ok (.ifCond .ne 14, 3) := by decide +kernel
theorem d_Mod_good_92 : decode b_Mod_good 92 = .ok (.iload_n 1, 1) := by decide +kernel
theorem d_Mod_good_93 : decode b_Mod_good 93 = .ok (.iconst 1, 1) := by decide +kernel
theorem d_Mod_good_94 : decode b_Mod_good 94 = .ok (.if_icmp .ne 7, 3) := by decide +kernel
theorem d_Mod_good_97 : decode b_Mod_good 97 = .ok (.iload_n 1, 1) := by decide +kernel
theorem d_Mod_good_98 : decode b_Mod_good 98 = .ok (.goto 4, 3) := by decide +kernel
theorem d_Mod_good_101 : decode b_Mod_good 101 = .ok (.iconst 1, 1) := by decide +kernel
theorem d_Mod_good_102 : decode b_Mod_good 102 = .ok (.ireturn, 1) := by decide +kernel
theorem d_Mod_good_103 : decode b_Mod_good 103 = .ok (.aload_n 0, 1) := by decide +kernel
theorem d_Mod_good_104 : decode b_Mod_good 104 = .ok (.iload_n 3, 1) := by decide +kernel
theorem d_Mod_good_105 : decode b_Mod_good 105 = .ok (.iload_n 1, 1) := by decide +kernel
theorem d_Mod_good_106 : decode b_Mod_good 106 = .ok (.iload 4, 2) := by decide +kernel
theorem d_Mod_good_108 : decode b_Mod_good 108 = .ok (.invokevirtual 107, 3) := by decide +kernel
theorem d_Mod_good_111 : decode b_Mod_good 111 = .ok (.ireturn, 1) := by decide +kernel
def μ_Mod_good : ax_M := (b_Mod_good, 5, "DotConsoleModel", (some .int), 3, 67, 0, 0)
theorem Y_Mod_good : ax_YV μ_Mod_good y_Mod_good 0 := ⟨⟨ax_mem (by decide +kernel) rfl, ax_mem (by decide +kernel) rfl, by decide, by decide, by decide +kernel⟩, ax_mem (by decide +kernel) rfl, ax_mem (by decide +kernel) rfl⟩
theorem km_Mod_107 : Cond.methodLink "DotConsoleModel" 107 ⟨"DotConsoleModel", "expressions", "(III)I"⟩ ∈ ax_T := ax_mem (by decide +kernel) rfl
theorem km_Mod_103 : Cond.methodLink "DotConsoleModel" 103 ⟨"DotConsoleModel", "wants", "(I)I"⟩ ∈ ax_T := ax_mem (by decide +kernel) rfl
def J_Mod_good_85 (N : Nat) (t0 : Int32) (l1 : Int32) (l3 : Int32) (σ : St) : Option (Int32 × St) :=
  (if t0 = 0 then
  (if l1 = 1 then
  some (l1, σ)
  else some (1, σ))
  else ax_bind (J_Mod_expressions N l3 l1 t0 σ) (fun r2 σ2 =>
  some (r2, σ2)))
def J_Mod_good_72 (N : Nat) (l1 : Int32) (l2 : Int32) (l3 : Int32) (σ : St) : Option (Int32 × St) :=
  (if l2 = 2 then
  J_Mod_good_85 N 1 l1 l3 σ
  else ax_bind (J_Mod_wants N l2 σ) (fun r1 σ1 =>
  J_Mod_good_85 N r1 l1 l3 σ1))
def J_Mod_good (N : Nat) (σ : St) : Option (Int32 × St) :=
  (if (inB 28 29) = true then ax_let ((σ.2 4 (28 : Int32).toNatClampNeg) : Int32) (fun v1 =>
  (if v1 = 0 then
  some ((-1), σ)
  else (if (inB 1344 1400) = true then ax_let ((σ.2 1 (1344 : Int32).toNatClampNeg) : Int32) (fun v2 =>
  (if v2 = 2 then
  (if v1 = 1 then
  some ((-2), σ)
  else (if (inB 1345 1400) = true then (if (σ.2 1 (1345 : Int32).toNatClampNeg) = 61 then
  J_Mod_good_72 N v1 v2 2 σ
  else some (1, σ)) else none))
  else (if v2 < 10 then
  some (0, σ)
  else (if v2 ≤ 18 then
  J_Mod_good_72 N v1 v2 1 σ
  else some (0, σ))))) else none))) else none)
set_option maxHeartbeats 1000000 in
theorem t_Mod_good_85 {N : Nat} {g : ax_G} {r9 : Int32} {s9 : St} (x : ax_X) (A : Nat → Prop) : ∀ (t0 : Int32) (l1 : Int32) (l3 : Int32) (σ : St), J_Mod_good_85 N t0 l1 l3 σ = some (r9, s9) → AW x μ_Mod_good g A (wM g) (0, 0) (ax_QI x μ_Mod_good g A (wM g) (ax_eqI r9 s9)) 85 [(0, .ref (g.2.1 32)), (1, .int l1), (3, .int l3)] [.int t0] σ := by
  intro t0 l1 l3 σ hJ
  rw [J_Mod_good_85] at hJ
  refine aw_istore (n := 87) d_Mod_good_85 rfl (by decide) rfl ?_
  refine aw_iload (n := 89) d_Mod_good_87 rfl 0 rfl ?_
  refine aw_if_ne (n := 92) (t := 103) d_Mod_good_89 rfl (by decide) (fun c8 => ?_) (fun c8 => ?_)
  · rw [if_neg c8] at hJ
    refine aw_aload_n (n := 104) d_Mod_good_103 rfl rfl 1 rfl ?_
    refine aw_iload_n (n := 105) d_Mod_good_104 rfl rfl 3 rfl ?_
    refine aw_iload_n (n := 106) d_Mod_good_105 rfl rfl 2 rfl ?_
    refine aw_iload (n := 108) d_Mod_good_106 rfl 0 rfl ?_
    obtain ⟨r2, σ2, hc2, hJ⟩ := ax_bindE hJ
    refine aw_callVi (n := 111) (c_Mod_expressions hc2) 0 rfl rfl Y_Mod_expressions km_Mod_107 (by decide) (by decide) rfl rfl (Nat.le_of_ble_eq_true rfl) d_Mod_good_108 rfl (fun r9 s9 hp => ?_)
    obtain ⟨rfl, rfl⟩ := hp
    exact aw_iret d_Mod_good_111 rfl (ax_ret hJ)
  · rw [if_pos c8] at hJ
    refine aw_iload_n (n := 93) d_Mod_good_92 rfl rfl 2 rfl ?_
    refine aw_iconst (n := 94) (v := 1) d_Mod_good_93 rfl (by decide) ?_
    refine aw_icmp_ne (n := 97) (t := 101) d_Mod_good_94 rfl (by decide) (fun c9 => ?_) (fun c9 => ?_)
    · rw [if_neg c9] at hJ
      refine aw_iconst (n := 102) (v := 1) d_Mod_good_101 rfl (by decide) ?_
      exact aw_iret d_Mod_good_102 rfl (ax_ret hJ)
    · rw [if_pos c9] at hJ
      refine aw_iload_n (n := 98) d_Mod_good_97 rfl rfl 2 rfl ?_
      refine aw_goto (t := 102) d_Mod_good_98 (by decide) ?_
      exact aw_iret d_Mod_good_102 rfl (ax_ret hJ)
set_option maxHeartbeats 1000000 in
theorem t_Mod_good_72 {N : Nat} {g : ax_G} {r9 : Int32} {s9 : St} (x : ax_X) (A : Nat → Prop) : ∀ (l1 : Int32) (l2 : Int32) (l3 : Int32) (σ : St), J_Mod_good_72 N l1 l2 l3 σ = some (r9, s9) → AW x μ_Mod_good g A (wM g) (0, 0) (ax_QI x μ_Mod_good g A (wM g) (ax_eqI r9 s9)) 72 [(0, .ref (g.2.1 32)), (1, .int l1), (2, .int l2), (3, .int l3)] [] σ := by
  intro l1 l2 l3 σ hJ
  rw [J_Mod_good_72] at hJ
  refine aw_iload_n (n := 73) d_Mod_good_72 rfl rfl 2 rfl ?_
  refine aw_iconst (n := 74) (v := 2) d_Mod_good_73 rfl (by decide) ?_
  refine aw_icmp_ne (n := 77) (t := 81) d_Mod_good_74 rfl (by decide) (fun c7 => ?_) (fun c7 => ?_)
  · rw [if_neg c7] at hJ
    refine aw_iload_n (n := 82) d_Mod_good_81 rfl rfl 2 rfl ?_
    obtain ⟨r1, σ1, hc1, hJ⟩ := ax_bindE hJ
    refine aw_callSi (n := 85) (c_Mod_wants hc1) Y_Mod_wants km_Mod_103 (by decide) (by decide) rfl rfl (Nat.le_of_ble_eq_true rfl) d_Mod_good_82 rfl (fun r9 s9 hp => ?_)
    obtain ⟨rfl, rfl⟩ := hp
    refine aw_sub [0, 1, 3] rfl ?_
    exact t_Mod_good_85 x A _ _ _ _ hJ
  · rw [if_pos c7] at hJ
    refine aw_iconst (n := 78) (v := 1) d_Mod_good_77 rfl (by decide) ?_
    refine aw_goto (t := 85) d_Mod_good_78 (by decide) ?_
    refine aw_sub [0, 1, 3] rfl ?_
    exact t_Mod_good_85 x A _ _ _ _ hJ
set_option maxHeartbeats 1000000 in
theorem c_Mod_good {N : Nat} {g : ax_G} {σ : St} {r9 : Int32} {s9 : St} (hJ : J_Mod_good N σ = some (r9, s9)) : ax_CI μ_Mod_good g y_Mod_good (wM g) [.ref (g.2.1 32)] σ (ax_eqI r9 s9) := by
  refine ax_CI.of (plainFor_of_name rfl) rfl (Nat.le_of_ble_eq_true rfl) (fun x A _ => ?_)
  show AW x μ_Mod_good g A (wM g) (0, 0) (ax_QI x μ_Mod_good g A (wM g) (ax_eqI r9 s9)) 0 [(0, .ref (g.2.1 32))] [] σ
  rw [J_Mod_good] at hJ
  refine aw_aload_n (n := 1) d_Mod_good_0 rfl rfl 0 rfl ?_
  refine gf_Mod_tokens (n := 4) d_Mod_good_1 rfl kf_Mod_23 ?_
  refine aw_bipush (n := 6) (v := 28) d_Mod_good_4 rfl (by decide) ?_
  obtain ⟨h1, hJ⟩ := ax_need hJ
  refine al_37 (n := 7) d_Mod_good_6 rfl h1 ?_
  obtain ⟨v1, ev1, hJ⟩ := ax_letE hJ
  refine aw_top ev1 ?_
  refine aw_istore_n (n := 8) d_Mod_good_7 rfl rfl (by decide) rfl ?_
  refine aw_iload_n (n := 9) d_Mod_good_8 rfl rfl 0 rfl ?_
  refine aw_if_ne (n := 12) (t := 14) d_Mod_good_9 rfl (by decide) (fun c1 => ?_) (fun c1 => ?_)
  · rw [if_neg c1] at hJ
    refine aw_aload_n (n := 15) d_Mod_good_14 rfl rfl 1 rfl ?_
    refine gf_Mod_kind (n := 18) d_Mod_good_15 rfl kf_Mod_13 ?_
    refine aw_sipush (n := 21) (v := 1344) d_Mod_good_18 rfl (by decide) ?_
    obtain ⟨h2, hJ⟩ := ax_need hJ
    refine al_34 (n := 22) d_Mod_good_21 rfl h2 ?_
    obtain ⟨v2, ev2, hJ⟩ := ax_letE hJ
    refine aw_top ev2 ?_
    refine aw_istore_n (n := 23) d_Mod_good_22 rfl rfl (by decide) rfl ?_
    refine aw_iconst (n := 24) (v := 1) d_Mod_good_23 rfl (by decide) ?_
    refine aw_istore_n (n := 25) d_Mod_good_24 rfl rfl (by decide) rfl ?_
    refine aw_iload_n (n := 26) d_Mod_good_25 rfl rfl 1 rfl ?_
    refine aw_iconst (n := 27) (v := 2) d_Mod_good_26 rfl (by decide) ?_
    refine aw_icmp_ne (n := 30) (t := 58) d_Mod_good_27 rfl (by decide) (fun c2 => ?_) (fun c2 => ?_)
    · rw [if_neg c2] at hJ
      refine aw_iload_n (n := 59) d_Mod_good_58 rfl rfl 1 rfl ?_
      refine aw_bipush (n := 61) (v := 10) d_Mod_good_59 rfl (by decide) ?_
      refine aw_icmp_lt (n := 64) (t := 70) d_Mod_good_61 rfl (by decide) (fun c3 => ?_) (fun c3 => ?_)
      · rw [if_pos c3] at hJ
        refine aw_iconst (n := 71) (v := 0) d_Mod_good_70 rfl (by decide) ?_
        exact aw_iret d_Mod_good_71 rfl (ax_ret hJ)
      · rw [if_neg c3] at hJ
        refine aw_iload_n (n := 65) d_Mod_good_64 rfl rfl 1 rfl ?_
        refine aw_bipush (n := 67) (v := 18) d_Mod_good_65 rfl (by decide) ?_
        refine aw_icmp_le (n := 70) (t := 72) d_Mod_good_67 rfl (by decide) (fun c4 => ?_) (fun c4 => ?_)
        · rw [if_pos c4] at hJ
          refine aw_sub [3, 2, 1, 0] rfl ?_
          exact t_Mod_good_72 x A _ _ _ _ hJ
        · rw [if_neg c4] at hJ
          refine aw_iconst (n := 71) (v := 0) d_Mod_good_70 rfl (by decide) ?_
          exact aw_iret d_Mod_good_71 rfl (ax_ret hJ)
    · rw [if_pos c2] at hJ
      refine aw_iload_n (n := 31) d_Mod_good_30 rfl rfl 2 rfl ?_
      refine aw_iconst (n := 32) (v := 1) d_Mod_good_31 rfl (by decide) ?_
      refine aw_icmp_ne (n := 35) (t := 38) d_Mod_good_32 rfl (by decide) (fun c5 => ?_) (fun c5 => ?_)
      · rw [if_neg c5] at hJ
        refine aw_aload_n (n := 39) d_Mod_good_38 rfl rfl 3 rfl ?_
        refine gf_Mod_kind (n := 42) d_Mod_good_39 rfl kf_Mod_13 ?_
        refine aw_sipush (n := 45) (v := 1345) d_Mod_good_42 rfl (by decide) ?_
        obtain ⟨h3, hJ⟩ := ax_need hJ
        refine al_34 (n := 46) d_Mod_good_45 rfl h3 ?_
        refine aw_bipush (n := 48) (v := 61) d_Mod_good_46 rfl (by decide) ?_
        refine aw_icmp_eq (n := 51) (t := 53) d_Mod_good_48 rfl (by decide) (fun c6 => ?_) (fun c6 => ?_)
        · rw [if_pos c6] at hJ
          refine aw_iconst (n := 54) (v := 2) d_Mod_good_53 rfl (by decide) ?_
          refine aw_istore_n (n := 55) d_Mod_good_54 rfl rfl (by decide) rfl ?_
          refine aw_goto (t := 72) d_Mod_good_55 (by decide) ?_
          refine aw_sub [3, 2, 1, 0] rfl ?_
          exact t_Mod_good_72 x A _ _ _ _ hJ
        · rw [if_neg c6] at hJ
          refine aw_iconst (n := 52) (v := 1) d_Mod_good_51 rfl (by decide) ?_
          exact aw_iret d_Mod_good_52 rfl (ax_ret hJ)
      · rw [if_pos c5] at hJ
        refine aw_bipush (n := 37) (v := -2) d_Mod_good_35 rfl (by decide) ?_
        exact aw_iret d_Mod_good_37 rfl (ax_ret hJ)
  · rw [if_pos c1] at hJ
    refine aw_iconst (n := 13) (v := -1) d_Mod_good_12 rfl (by decide) ?_
    exact aw_iret d_Mod_good_13 rfl (ax_ret hJ)
abbrev b_Mod_cell : ByteArray := prog_10_method_37_code
def y_Mod_cell : MethodName := ⟨"DotConsoleModel", "cell", "(I)I"⟩
theorem d_Mod_cell_0 : decode b_Mod_cell 0 = .ok (.iload_n 1, 1) := by decide +kernel
theorem d_Mod_cell_1 : decode b_Mod_cell 1 = .ok (.ifCond .lt 18, 3) := by decide +kernel
theorem d_Mod_cell_4 : decode b_Mod_cell 4 = .ok (.iload_n 1, 1) := by decide +kernel
theorem d_Mod_cell_5 : decode b_Mod_cell 5 = .ok (.bipush 32, 2) := by decide +kernel
theorem d_Mod_cell_7 : decode b_Mod_cell 7 = .ok (.if_icmp .ge 12, 3) := by decide +kernel
theorem d_Mod_cell_10 : decode b_Mod_cell 10 = .ok (.aload_n 0, 1) := by decide +kernel
theorem d_Mod_cell_11 : decode b_Mod_cell 11 = .ok (.getfield 42, 3) := by decide +kernel
theorem d_Mod_cell_14 : decode b_Mod_cell 14 = .ok (.iload_n 1, 1) := by decide +kernel
theorem d_Mod_cell_15 : decode b_Mod_cell 15 = .ok (.iaload, 1) := by decide +kernel
theorem d_Mod_cell_16 : decode b_Mod_cell 16 = .ok (.goto 4, 3) := by decide +kernel
theorem d_Mod_cell_19 : decode b_Mod_cell 19 = .ok (.iconst 0, 1) := by decide +kernel
theorem d_Mod_cell_20 : decode b_Mod_cell 20 = .ok (.ireturn, 1) := by decide +kernel
def μ_Mod_cell : ax_M := (b_Mod_cell, 2, "DotConsoleModel", (some .int), 0, 0, 0, 0)
theorem Y_Mod_cell : ax_YV μ_Mod_cell y_Mod_cell 1 := ⟨⟨ax_mem (by decide +kernel) rfl, ax_mem (by decide +kernel) rfl, by decide, by decide, by decide +kernel⟩, ax_mem (by decide +kernel) rfl, ax_mem (by decide +kernel) rfl⟩
theorem kf_Mod_42 : Cond.fieldLink "DotConsoleModel" 42 "DotConsoleModel" "cells" "[I" ∈ ax_T := ax_mem (by decide +kernel) rfl
def J_Mod_cell (N : Nat) (a1 : Int32) (σ : St) : Option (Int32 × St) :=
  (if a1 < 0 then
  some (0, σ)
  else (if 32 ≤ a1 then
  some (0, σ)
  else (if (inB a1 32) = true then some ((σ.2 9 a1.toNatClampNeg), σ) else none)))
set_option maxHeartbeats 1000000 in
theorem c_Mod_cell {N : Nat} {g : ax_G} {a1 : Int32} {σ : St} {r9 : Int32} {s9 : St} (hJ : J_Mod_cell N a1 σ = some (r9, s9)) : ax_CI μ_Mod_cell g y_Mod_cell (wM g) [.ref (g.2.1 32), .int a1] σ (ax_eqI r9 s9) := by
  refine ax_CI.of (plainFor_of_name rfl) rfl (Nat.le_of_ble_eq_true rfl) (fun x A _ => ?_)
  show AW x μ_Mod_cell g A (wM g) (0, 0) (ax_QI x μ_Mod_cell g A (wM g) (ax_eqI r9 s9)) 0 [(0, .ref (g.2.1 32)), (1, .int a1)] [] σ
  rw [J_Mod_cell] at hJ
  refine aw_iload_n (n := 1) d_Mod_cell_0 rfl rfl 1 rfl ?_
  refine aw_if_lt (n := 4) (t := 19) d_Mod_cell_1 rfl (by decide) (fun c1 => ?_) (fun c1 => ?_)
  · rw [if_pos c1] at hJ
    refine aw_iconst (n := 20) (v := 0) d_Mod_cell_19 rfl (by decide) ?_
    exact aw_iret d_Mod_cell_20 rfl (ax_ret hJ)
  · rw [if_neg c1] at hJ
    refine aw_iload_n (n := 5) d_Mod_cell_4 rfl rfl 1 rfl ?_
    refine aw_bipush (n := 7) (v := 32) d_Mod_cell_5 rfl (by decide) ?_
    refine aw_icmp_ge (n := 10) (t := 19) d_Mod_cell_7 rfl (by decide) (fun c2 => ?_) (fun c2 => ?_)
    · rw [if_pos c2] at hJ
      refine aw_iconst (n := 20) (v := 0) d_Mod_cell_19 rfl (by decide) ?_
      exact aw_iret d_Mod_cell_20 rfl (ax_ret hJ)
    · rw [if_neg c2] at hJ
      refine aw_aload_n (n := 11) d_Mod_cell_10 rfl rfl 0 rfl ?_
      refine gf_Mod_cells (n := 14) d_Mod_cell_11 rfl kf_Mod_42 ?_
      refine aw_iload_n (n := 15) d_Mod_cell_14 rfl rfl 1 rfl ?_
      obtain ⟨h1, hJ⟩ := ax_need hJ
      refine al_42 (n := 16) d_Mod_cell_15 rfl h1 ?_
      refine aw_goto (t := 20) d_Mod_cell_16 (by decide) ?_
      exact aw_iret d_Mod_cell_20 rfl (ax_ret hJ)
abbrev b_Mod_rest : ByteArray := prog_10_method_20_code
def y_Mod_rest : MethodName := ⟨"DotConsoleModel", "rest", "(II)I"⟩
theorem d_Mod_rest_0 : decode b_Mod_rest 0 = .ok (.iload_n 0, 1) := by decide +kernel
theorem d_Mod_rest_1 : decode b_Mod_rest 1 = .ok (.i2l, 1) := by decide +kernel
theorem d_Mod_rest_2 : decode b_Mod_rest 2 = .ok (.iload_n 1, 1) := by decide +kernel
theorem d_Mod_rest_3 : decode b_Mod_rest 3 = .ok (.i2l, 1) := by decide +kernel
theorem d_Mod_rest_4 : decode b_Mod_rest 4 = .ok (.ldiv, 1) := by decide +kernel
theorem d_Mod_rest_5 : decode b_Mod_rest 5 = .ok (.lstore_n 2, 1) := by decide +kernel
theorem d_Mod_rest_6 : decode b_Mod_rest 6 = .ok (.iload_n 0, 1) := by decide +kernel
theorem d_Mod_rest_7 : decode b_Mod_rest 7 = .ok (.i2l, 1) := by decide +kernel
theorem d_Mod_rest_8 : decode b_Mod_rest 8 = .ok (.iload_n 1, 1) := by decide +kernel
theorem d_Mod_rest_9 : decode b_Mod_rest 9 = .ok (.i2l, 1) := by decide +kernel
theorem d_Mod_rest_10 : decode b_Mod_rest 10 = .ok (.lrem, 1) := by decide +kernel
theorem d_Mod_rest_11 : decode b_Mod_rest 11 = .ok (.lconst 0, 1) := by decide +kernel
theorem d_Mod_rest_12 : decode b_Mod_rest 12 = .ok (.lcmp, 1) := by decide +kernel
theorem d_Mod_rest_13 : decode b_Mod_rest 13 = .ok (.ifCond .eq 28, 3) := by decide +kernel
theorem d_Mod_rest_16 : decode b_Mod_rest 16 = .ok (.iload_n 0, 1) := by decide +kernel
theorem d_Mod_rest_17 : decode b_Mod_rest 17 = .ok (.ifCond .ge 7, 3) := by decide +kernel
theorem d_Mod_rest_20 : decode b_Mod_rest 20 = .ok (.iconst 1, 1) := by decide +kernel
theorem d_Mod_rest_21 : decode b_Mod_rest 21 = .ok (.goto 4, 3) := by decide +kernel
theorem d_Mod_rest_24 : decode b_Mod_rest 24 = .ok (.iconst 0, 1) := by decide +kernel
theorem d_Mod_rest_25 : decode b_Mod_rest 25 = .ok (.iload_n 1, 1) := by decide +kernel
theorem d_Mod_rest_26 : decode b_Mod_rest 26 = .ok (.ifCond .ge 7, 3) := by decide +kernel
theorem d_Mod_rest_29 : decode b_Mod_rest 29 = .ok (.iconst 1, 1) := by decide +kernel
theorem d_Mod_rest_30 : decode b_Mod_rest 30 = .ok (.goto 4, 3) := by decide +kernel
theorem d_Mod_rest_33 : decode b_Mod_rest 33 = .ok (.iconst 0, 1) := by decide +kernel
theorem d_Mod_rest_34 : decode b_Mod_rest 34 = .ok (.if_icmp .eq 7, 3) := by decide +kernel
theorem d_Mod_rest_37 : decode b_Mod_rest 37 = .ok (.lload_n 2, 1) := by decide +kernel
theorem d_Mod_rest_38 : decode b_Mod_rest 38 = .ok (.lconst 1, 1) := by decide +kernel
theorem d_Mod_rest_39 : decode b_Mod_rest 39 = .ok (.lsub, 1) := by decide +kernel
theorem d_Mod_rest_40 : decode b_Mod_rest 40 = .ok (.lstore_n 2, 1) := by decide +kernel
theorem d_Mod_rest_41 : decode b_Mod_rest 41 = .ok (.iload_n 0, 1) := by decide +kernel
theorem d_Mod_rest_42 : decode b_Mod_rest 42 = .ok (.i2l, 1) := by decide +kernel
theorem d_Mod_rest_43 : decode b_Mod_rest 43 = .ok (.iload_n 1, 1) := by decide +kernel
theorem d_Mod_rest_44 : decode b_Mod_rest 44 = .ok (.i2l, 1) := by decide +kernel
theorem d_Mod_rest_45 : decode b_Mod_rest 45 = .ok (.lload_n 2, 1) := by decide +kernel
theorem d_Mod_rest_46 : decode b_Mod_rest 46 = .ok (.lmul, 1) := by decide +kernel
theorem d_Mod_rest_47 : decode b_Mod_rest 47 = .ok (.lsub, 1) := by decide +kernel
theorem d_Mod_rest_48 : decode b_Mod_rest 48 = .ok (.l2i, 1) := by decide +kernel
theorem d_Mod_rest_49 : decode b_Mod_rest 49 = .ok (.ireturn, 1) := by decide +kernel
def μ_Mod_rest : ax_M := (b_Mod_rest, 4, "DotConsoleModel", (some .int), 0, 0, 0, 0)
theorem Y_Mod_rest : ax_YS μ_Mod_rest y_Mod_rest 2 := ⟨⟨ax_mem (by decide +kernel) rfl, ax_mem (by decide +kernel) rfl, by decide, by decide, by decide +kernel⟩, ax_mem (by decide +kernel) rfl⟩
def J_Mod_rest_41 (N : Nat) (l0 : Int32) (l1 : Int32) (l2 : Int64) (σ : St) : Option (Int32 × St) :=
  some ((((l0.toInt64) - ((l1.toInt64) * l2)).toInt32), σ)
def J_Mod_rest_34 (N : Nat) (t0 : Int32) (t1 : Int32) (l0 : Int32) (l1 : Int32) (l2 : Int64) (σ : St) : Option (Int32 × St) :=
  (if t1 = t0 then
  J_Mod_rest_41 N l0 l1 l2 σ
  else ax_let (l2 - 1) (fun v2 =>
  J_Mod_rest_41 N l0 l1 v2 σ))
def J_Mod_rest_25 (N : Nat) (t0 : Int32) (l0 : Int32) (l1 : Int32) (l2 : Int64) (σ : St) : Option (Int32 × St) :=
  (if 0 ≤ l1 then
  J_Mod_rest_34 N 0 t0 l0 l1 l2 σ
  else J_Mod_rest_34 N 1 t0 l0 l1 l2 σ)
def J_Mod_rest (N : Nat) (a0 : Int32) (a1 : Int32) (σ : St) : Option (Int32 × St) :=
  (if (a1.toInt64) = 0 then none else ax_let ((a0.toInt64) / (a1.toInt64)) (fun v1 =>
  (if (a1.toInt64) = 0 then none else (if (lg_cmp ((a0.toInt64) - (a0.toInt64) / (a1.toInt64) * (a1.toInt64)) 0) = 0 then
  J_Mod_rest_41 N a0 a1 v1 σ
  else (if 0 ≤ a0 then
  J_Mod_rest_25 N 0 a0 a1 v1 σ
  else J_Mod_rest_25 N 1 a0 a1 v1 σ)))))
set_option maxHeartbeats 1000000 in
theorem t_Mod_rest_41 {N : Nat} {g : ax_G} {r9 : Int32} {s9 : St} (x : ax_X) (A : Nat → Prop) : ∀ (l0 : Int32) (l1 : Int32) (l2 : Int64) (σ : St), J_Mod_rest_41 N l0 l1 l2 σ = some (r9, s9) → AW x μ_Mod_rest g A (wM g) (0, 0) (ax_QI x μ_Mod_rest g A (wM g) (ax_eqI r9 s9)) 41 [(0, .int l0), (1, .int l1), (2, .long l2)] [] σ := by
  intro l0 l1 l2 σ hJ
  rw [J_Mod_rest_41] at hJ
  refine aw_iload_n (n := 42) d_Mod_rest_41 rfl rfl 0 rfl ?_
  refine aw_i2l (n := 43) d_Mod_rest_42 rfl rfl ?_
  refine aw_iload_n (n := 44) d_Mod_rest_43 rfl rfl 1 rfl ?_
  refine aw_i2l (n := 45) d_Mod_rest_44 rfl rfl ?_
  refine aw_lload_n (n := 46) d_Mod_rest_45 rfl rfl 2 rfl ?_
  refine aw_lmul (n := 47) d_Mod_rest_46 rfl ?_
  refine aw_lsub (n := 48) d_Mod_rest_47 rfl ?_
  refine aw_l2i (n := 49) d_Mod_rest_48 rfl rfl ?_
  exact aw_iret d_Mod_rest_49 rfl (ax_ret hJ)
set_option maxHeartbeats 1000000 in
theorem t_Mod_rest_34 {N : Nat} {g : ax_G} {r9 : Int32} {s9 : St} (x : ax_X) (A : Nat → Prop) : ∀ (t0 : Int32) (t1 : Int32) (l0 : Int32) (l1 : Int32) (l2 : Int64) (σ : St), J_Mod_rest_34 N t0 t1 l0 l1 l2 σ = some (r9, s9) → AW x μ_Mod_rest g A (wM g) (0, 0) (ax_QI x μ_Mod_rest g A (wM g) (ax_eqI r9 s9)) 34 [(0, .int l0), (1, .int l1), (2, .long l2)] [.int t0, .int t1] σ := by
  intro t0 t1 l0 l1 l2 σ hJ
  rw [J_Mod_rest_34] at hJ
  refine aw_icmp_eq (n := 37) (t := 41) d_Mod_rest_34 rfl (by decide) (fun c4 => ?_) (fun c4 => ?_)
  · rw [if_pos c4] at hJ
    exact t_Mod_rest_41 x A _ _ _ _ hJ
  · rw [if_neg c4] at hJ
    refine aw_lload_n (n := 38) d_Mod_rest_37 rfl rfl 2 rfl ?_
    refine aw_lconst (n := 39) (v := 1) d_Mod_rest_38 rfl (by decide) ?_
    refine aw_lsub (n := 40) d_Mod_rest_39 rfl ?_
    obtain ⟨v2, ev2, hJ⟩ := ax_letE hJ
    refine aw_topl ev2 ?_
    refine aw_lstore_n (n := 41) d_Mod_rest_40 rfl rfl (by decide) rfl ?_
    refine aw_sub [1, 2, 0] rfl ?_
    exact t_Mod_rest_41 x A _ _ _ _ hJ
set_option maxHeartbeats 1000000 in
theorem t_Mod_rest_25 {N : Nat} {g : ax_G} {r9 : Int32} {s9 : St} (x : ax_X) (A : Nat → Prop) : ∀ (t0 : Int32) (l0 : Int32) (l1 : Int32) (l2 : Int64) (σ : St), J_Mod_rest_25 N t0 l0 l1 l2 σ = some (r9, s9) → AW x μ_Mod_rest g A (wM g) (0, 0) (ax_QI x μ_Mod_rest g A (wM g) (ax_eqI r9 s9)) 25 [(0, .int l0), (1, .int l1), (2, .long l2)] [.int t0] σ := by
  intro t0 l0 l1 l2 σ hJ
  rw [J_Mod_rest_25] at hJ
  refine aw_iload_n (n := 26) d_Mod_rest_25 rfl rfl 1 rfl ?_
  refine aw_if_ge (n := 29) (t := 33) d_Mod_rest_26 rfl (by decide) (fun c3 => ?_) (fun c3 => ?_)
  · rw [if_pos c3] at hJ
    refine aw_iconst (n := 34) (v := 0) d_Mod_rest_33 rfl (by decide) ?_
    exact t_Mod_rest_34 x A _ _ _ _ _ _ hJ
  · rw [if_neg c3] at hJ
    refine aw_iconst (n := 30) (v := 1) d_Mod_rest_29 rfl (by decide) ?_
    refine aw_goto (t := 34) d_Mod_rest_30 (by decide) ?_
    exact t_Mod_rest_34 x A _ _ _ _ _ _ hJ
set_option maxHeartbeats 1000000 in
theorem c_Mod_rest {N : Nat} {g : ax_G} {a0 : Int32} {a1 : Int32} {σ : St} {r9 : Int32} {s9 : St} (hJ : J_Mod_rest N a0 a1 σ = some (r9, s9)) : ax_CI μ_Mod_rest g y_Mod_rest (wM g) [.int a0, .int a1] σ (ax_eqI r9 s9) := by
  refine ax_CI.of (plainFor_of_name rfl) rfl (Nat.le_of_ble_eq_true rfl) (fun x A _ => ?_)
  show AW x μ_Mod_rest g A (wM g) (0, 0) (ax_QI x μ_Mod_rest g A (wM g) (ax_eqI r9 s9)) 0 [(0, .int a0), (1, .int a1)] [] σ
  rw [J_Mod_rest] at hJ
  refine aw_iload_n (n := 1) d_Mod_rest_0 rfl rfl 0 rfl ?_
  refine aw_i2l (n := 2) d_Mod_rest_1 rfl rfl ?_
  refine aw_iload_n (n := 3) d_Mod_rest_2 rfl rfl 1 rfl ?_
  refine aw_i2l (n := 4) d_Mod_rest_3 rfl rfl ?_
  obtain ⟨h1, hJ⟩ := ax_need0 hJ
  refine aw_ldiv (n := 5) d_Mod_rest_4 rfl h1 ?_
  obtain ⟨v1, ev1, hJ⟩ := ax_letE hJ
  refine aw_topl ev1 ?_
  refine aw_lstore_n (n := 6) d_Mod_rest_5 rfl rfl (by decide) rfl ?_
  refine aw_iload_n (n := 7) d_Mod_rest_6 rfl rfl 1 rfl ?_
  refine aw_i2l (n := 8) d_Mod_rest_7 rfl rfl ?_
  refine aw_iload_n (n := 9) d_Mod_rest_8 rfl rfl 2 rfl ?_
  refine aw_i2l (n := 10) d_Mod_rest_9 rfl rfl ?_
  obtain ⟨h2, hJ⟩ := ax_need0 hJ
  refine aw_lrem (n := 11) d_Mod_rest_10 rfl h2 ?_
  refine aw_lconst (n := 12) (v := 0) d_Mod_rest_11 rfl (by decide) ?_
  refine aw_lcmp (n := 13) d_Mod_rest_12 rfl ?_
  refine aw_if_eq (n := 16) (t := 41) d_Mod_rest_13 rfl (by decide) (fun c1 => ?_) (fun c1 => ?_)
  · rw [if_pos c1] at hJ
    refine aw_sub [1, 2, 0] rfl ?_
    exact t_Mod_rest_41 x A _ _ _ _ hJ
  · rw [if_neg c1] at hJ
    refine aw_iload_n (n := 17) d_Mod_rest_16 rfl rfl 1 rfl ?_
    refine aw_if_ge (n := 20) (t := 24) d_Mod_rest_17 rfl (by decide) (fun c2 => ?_) (fun c2 => ?_)
    · rw [if_pos c2] at hJ
      refine aw_iconst (n := 25) (v := 0) d_Mod_rest_24 rfl (by decide) ?_
      refine aw_sub [1, 2, 0] rfl ?_
      exact t_Mod_rest_25 x A _ _ _ _ _ hJ
    · rw [if_neg c2] at hJ
      refine aw_iconst (n := 21) (v := 1) d_Mod_rest_20 rfl (by decide) ?_
      refine aw_goto (t := 25) d_Mod_rest_21 (by decide) ?_
      refine aw_sub [1, 2, 0] rfl ?_
      exact t_Mod_rest_25 x A _ _ _ _ _ hJ
