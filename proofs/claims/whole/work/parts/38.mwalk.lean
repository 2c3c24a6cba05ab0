/-! WALKED: Mod_done, Mod_frame. Printed by wip/whole/build.py. -/
abbrev b_Mod_done : ByteArray := prog_10_method_28_code
def y_Mod_done : MethodName := ⟨"DotConsoleModel", "done", "(II)I"⟩
theorem d_Mod_done_0 : decode b_Mod_done 0 = .ok (.bipush 48, 2) := by decide +kernel
theorem d_Mod_done_2 : decode b_Mod_done 2 = .ok (.iload_n 1, 1) := by decide +kernel
theorem d_Mod_done_3 : decode b_Mod_done 3 = .ok (.imul, 1) := by decide +kernel
theorem d_Mod_done_4 : decode b_Mod_done 4 = .ok (.istore_n 3, 1) := by decide +kernel
theorem d_Mod_done_5 : decode b_Mod_done 5 = .ok (.iload_n 2, 1) := by decide +kernel
theorem d_Mod_done_6 : decode b_Mod_done 6 = .ok (.bipush 11, 2) := by decide +kernel
theorem d_Mod_done_8 : decode b_Mod_done 8 = .ok (.if_icmp .ne 12, 3) := by decide +kernel
theorem d_Mod_done_11 : decode b_Mod_done 11 = .ok (.aload_n 0, 1) := by decide +kernel
theorem d_Mod_done_12 : decode b_Mod_done 12 = .ok (.getfield 39, 3) := by decide +kernel
theorem d_Mod_done_15 : decode b_Mod_done 15 = .ok (.iload_n 1, 1) := by decide +kernel
theorem d_Mod_done_16 : decode b_Mod_done 16 = .ok (.iaload, 1) := by decide +kernel
theorem d_Mod_done_17 : decode b_Mod_done 17 = .ok (.iconst 1, 1) := by decide +kernel
theorem d_Mod_done_18 : decode b_Mod_done 18 = .ok (.iadd, 1) := by decide +kernel
theorem d_Mod_done_19 : decode b_Mod_done 19 = .ok (.ireturn, 1) := by decide +kernel
theorem d_Mod_done_20 : decode b_Mod_done 20 = .ok (.iload_n 2, 1) := by decide +kernel
theorem d_Mod_done_21 : decode b_Mod_done 21 = .ok (.bipush 13, 2) := by decide +kernel
theorem d_Mod_done_23 : decode b_Mod_done 23 = .ok (.if_icmp .ne 25, 3) := by decide +kernel
theorem d_Mod_done_26 : decode b_Mod_done 26 = .ok (.aload_n 0, 1) := by decide +kernel
theorem d_Mod_done_27 : decode b_Mod_done 27 = .ok (.getfield 39, 3) := by decide +kernel
theorem d_Mod_done_30 : decode b_Mod_done 30 = .ok (.iload_n 1, 1) := by decide +kernel
theorem d_Mod_done_31 : decode b_Mod_done 31 = .ok (.iaload, 1) := by decide +kernel
theorem d_Mod_done_32 : decode b_Mod_done 32 = .ok (.ifCond .lt 12, 3) := by decide +kernel
theorem d_Mod_done_35 : decode b_Mod_done 35 = .ok (.aload_n 0, 1) := by decide +kernel
theorem d_Mod_done_36 : decode b_Mod_done 36 = .ok (.getfield 39, 3) := by decide +kernel
theorem d_Mod_done_39 : decode b_Mod_done 39 = .ok (.iload_n 1, 1) := by decide +kernel
theorem d_Mod_done_40 : decode b_Mod_done 40 = .ok (.iaload, 1) := by decide +kernel
theorem d_Mod_done_41 : decode b_Mod_done 41 = .ok (.goto 6, 3) := by decide +kernel
theorem d_Mod_done_44 : decode b_Mod_done 44 = .ok (.iload_n 1, 1) := by decide +kernel
theorem d_Mod_done_45 : decode b_Mod_done 45 = .ok (.iconst 1, 1) := by decide +kernel
theorem d_Mod_done_46 : decode b_Mod_done 46 = .ok (.iadd, 1) := by decide +kernel
theorem d_Mod_done_47 : decode b_Mod_done 47 = .ok (.ireturn, 1) := by decide +kernel
theorem d_Mod_done_48 : decode b_Mod_done 48 = .ok (.iload_n 2, 1) := by decide +kernel
theorem d_Mod_done_49 : decode b_Mod_done 49 = .ok (.iconst 2, 1) := by decide +kernel
theorem d_Mod_done_50 : decode b_Mod_done 50 = .ok (.if_icmp .ne 27, 3) := by decide +kernel
theorem d_Mod_done_53 : decode b_Mod_done 53 = .ok (.aload_n 0, 1) := by decide +kernel
theorem d_Mod_done_54 : decode b_Mod_done 54 = .ok (.getfield 36, 3) := by decide +kernel
theorem d_Mod_done_57 : decode b_Mod_done 57 = .ok (.aload_n 0, 1) := by decide +kernel
theorem d_Mod_done_58 : decode b_Mod_done 58 = .ok (.getfield 17, 3) := by decide +kernel
theorem d_Mod_done_61 : decode b_Mod_done 61 = .ok (.iload_n 3, 1) := by decide +kernel
theorem d_Mod_done_62 : decode b_Mod_done 62 = .ok (.iaload, 1) := by decide +kernel
theorem d_Mod_done_63 : decode b_Mod_done 63 = .ok (.aload_n 0, 1) := by decide +kernel
theorem d_Mod_done_64 : decode b_Mod_done 64 = .ok (.iload_n 1, 1) := by decide +kernel
theorem d_Mod_done_65 : decode b_Mod_done 65 = .ok (.iload_n 3, 1) := by decide +kernel
theorem d_Mod_done_66 : decode b_Mod_done 66 = .ok (.iconst 2, 1) := by decide +kernel
theorem d_Mod_done_67 : decode b_Mod_done 67 = .ok (.iadd, 1) := by decide +kernel
theorem d_Mod_done_68 : decode b_Mod_done 68 = .ok (.iconst 1, 1) := by decide +kernel
theorem d_Mod_done_69 : decode b_Mod_done 69 = .ok (.invokevirtual 133, 3) := by decide +kernel
theorem d_Mod_done_72 : decode b_Mod_done 72 = .ok (.iastore, 1) := by decide +kernel
theorem d_Mod_done_73 : decode b_Mod_done 73 = .ok (.iload_n 1, 1) := by decide +kernel
theorem d_Mod_done_74 : decode b_Mod_done 74 = .ok (.iconst 1, 1) := by decide +kernel
theorem d_Mod_done_75 : decode b_Mod_done 75 = .ok (.iadd, 1) := by decide +kernel
theorem d_Mod_done_76 : decode b_Mod_done 76 = .ok (.ireturn, 1) := by decide +kernel
theorem d_Mod_done_77 : decode b_Mod_done 77 = .ok (.iload_n 2, 1) := by decide +kernel
theorem d_Mod_done_78 : decode b_Mod_done 78 = .ok (.invokestatic 103, 3) := by decide +kernel
theorem d_Mod_done_81 : decode b_Mod_done 81 = .ok (.istore 4, 2) := by decide +kernel
theorem d_Mod_done_83 : decode b_Mod_done 83 = .ok (.aload_n 0, 1) := by decide +kernel
theorem d_Mod_done_84 : decode b_Mod_done 84 = .ok (.iload_n 3, 1) := by decide +kernel
theorem d_Mod_done_85 : decode b_Mod_done 85 = .ok (.putfield 130, 3) := by decide +kernel
theorem d_Mod_done_88 : decode b_Mod_done 88 = .ok (.iconst 0, 1) := by decide +kernel
theorem d_Mod_done_89 : decode b_Mod_done 89 = .ok (.istore 5, 2) := by decide +kernel
theorem d_Mod_done_91 : decode b_Mod_done 91 = .ok (.iload 5, 2) := by decide +kernel
theorem d_Mod_done_93 : decode b_Mod_done 93 = .ok (.iload 4, 2) := by decide +kernel
theorem d_Mod_done_95 : decode b_Mod_done 95 = .ok (.if_icmp .ge 28, 3) := by decide +kernel
theorem d_Mod_done_98 : decode b_Mod_done 98 = .ok (.aload_n 0, 1) := by decide +kernel
theorem d_Mod_done_99 : decode b_Mod_done 99 = .ok (.getfield 63, 3) := by decide +kernel
theorem d_Mod_done_102 : decode b_Mod_done 102 = .ok (.iload 5, 2) := by decide +kernel
theorem d_Mod_done_104 : decode b_Mod_done 104 = .ok (.aload_n 0, 1) := by decide +kernel
theorem d_Mod_done_105 : decode b_Mod_done 105 = .ok (.iload_n 1, 1) := by decide +kernel
theorem d_Mod_done_106 : decode b_Mod_done 106 = .ok (.aload_n 0, 1) := by decide +kernel
theorem d_Mod_done_107 : decode b_Mod_done 107 = .ok (.getfield 130, 3) := by decide +kernel
theorem d_Mod_done_110 : decode b_Mod_done 110 = .ok (.iconst 1, 1) := by decide +kernel
theorem d_Mod_done_111 : decode b_Mod_done 111 = .ok (.iadd, 1) := by decide +kernel
theorem d_Mod_done_112 : decode b_Mod_done 112 = .ok (.iconst 1, 1) := by decide +kernel
theorem d_Mod_done_113 : decode b_Mod_done 113 = .ok (.invokevirtual 133, 3) := by decide +kernel
theorem d_Mod_done_116 : decode b_Mod_done 116 = .ok (.iastore, 1) := by decide +kernel
theorem d_Mod_done_117 : decode b_Mod_done 117 = .ok (.iinc 5 1, 3) := by decide +kernel
theorem d_Mod_done_120 : decode b_Mod_done 120 = .ok (.goto (-29), 3) := by decide +kernel
theorem d_Mod_done_123 : decode b_Mod_done 123 = .ok (.iload_n 2, 1) := by decide +kernel
theorem d_Mod_done_124 : decode b_Mod_done 124 = .ok (.bipush 10, 2) := by decide +kernel
theorem d_Mod_done_126 : decode b_Mod_done 126 = .ok (.if_icmp .eq 9, 3) := by decide +kernel
theorem d_Mod_done_129 : decode b_Mod_done 129 = .ok (.iload_n 2, 1) := by decide +kernel
theorem d_Mod_done_130 : decode b_Mod_done 130 = .ok (.bipush 12, 2) := by decide +kernel
theorem d_Mod_done_132 : decode b_Mod_done 132 = .ok (.if_icmp .ne 27, 3) := by decide +kernel
theorem d_Mod_done_135 : decode b_Mod_done 135 = .ok (.aload_n 0, 1) := by decide +kernel
theorem d_Mod_done_136 : decode b_Mod_done 136 = .ok (.getfield 63, 3) := by decide +kernel
theorem d_Mod_done_139 : decode b_Mod_done 139 = .ok (.iconst 0, 1) := by decide +kernel
theorem d_Mod_done_140 : decode b_Mod_done 140 = .ok (.iaload, 1) := by decide +kernel
theorem d_Mod_done_141 : decode b_Mod_done 141 = .ok (.ifCond .eq 9, 3) := by decide +kernel
theorem d_Mod_done_144 : decode b_Mod_done 144 = .ok (.iload_n 1, 1) := by decide +kernel
theorem d_Mod_done_145 : decode b_Mod_done 145 = .ok (.iconst 1, 1) := by decide +kernel
theorem d_Mod_done_146 : decode b_Mod_done 146 = .ok (.iadd, 1) := by decide +kernel
theorem d_Mod_done_147 : decode b_Mod_done 147 = .ok (.goto 11, 3) := by decide +kernel
theorem d_Mod_done_150 : decode b_Mod_done 150 = .ok (.aload_n 0, 1) := by decide +kernel
theorem d_Mod_done_151 : decode b_Mod_done 151 = .ok (.getfield 39, 3) := by decide +kernel
theorem d_Mod_done_154 : decode b_Mod_done 154 = .ok (.iload_n 1, 1) := by decide +kernel
theorem d_Mod_done_155 : decode b_Mod_done 155 = .ok (.iaload, 1) := by decide +kernel
theorem d_Mod_done_156 : decode b_Mod_done 156 = .ok (.iconst 1, 1) := by decide +kernel
theorem d_Mod_done_157 : decode b_Mod_done 157 = .ok (.iadd, 1) := by decide +kernel
theorem d_Mod_done_158 : decode b_Mod_done 158 = .ok (.ireturn, 1) := by decide +kernel
theorem d_Mod_done_159 : decode b_Mod_done 159 = .ok (.iload_n 2, 1) := by decide +kernel
theorem d_Mod_done_160 : decode b_Mod_done 160 = .ok (.bipush 18, 2) := by decide +kernel
theorem d_Mod_done_162 : decode b_Mod_done 162 = .ok (.if_icmp .ne 43, 3) := by decide +kernel
theorem d_Mod_done_165 : decode b_Mod_done 165 = .ok (.aload_n 0, 1) := by decide +kernel
theorem d_Mod_done_166 : decode b_Mod_done 166 = .ok (.getfield 63, 3) := by decide +kernel
theorem d_Mod_done_169 : decode b_Mod_done 169 = .ok (.iconst 0, 1) := by decide +kernel
theorem d_Mod_done_170 : decode b_Mod_done 170 = .ok (.iaload, 1) := by decide +kernel
theorem d_Mod_done_171 : decode b_Mod_done 171 = .ok (.bipush 16, 2) := by decide +kernel
theorem d_Mod_done_173 : decode b_Mod_done 173 = .ok (.ishr, 1) := by decide +kernel
theorem d_Mod_done_174 : decode b_Mod_done 174 = .ok (.istore 5, 2) := by decide +kernel
theorem d_Mod_done_176 : decode b_Mod_done 176 = .ok (.iload 5, 2) := by decide +kernel
theorem d_Mod_done_178 : decode b_Mod_done 178 = .ok (.ifCond .lt 23, 3) := by decide +kernel
theorem d_Mod_done_181 : decode b_Mod_done 181 = .ok (.iload 5, 2) := by decide +kernel
theorem d_Mod_done_183 : decode b_Mod_done 183 = .ok (.bipush 32, 2) := by decide +kernel
theorem d_Mod_done_185 : decode b_Mod_done 185 = .ok (.if_icmp .ge 16, 3) := by decide +kernel
theorem d_Mod_done_188 : decode b_Mod_done 188 = .ok (.aload_n 0, 1) := by decide +kernel
theorem d_Mod_done_189 : decode b_Mod_done 189 = .ok (.getfield 42, 3) := by decide +kernel
theorem d_Mod_done_192 : decode b_Mod_done 192 = .ok (.iload 5, 2) := by decide +kernel
theorem d_Mod_done_194 : decode b_Mod_done 194 = .ok (.aload_n 0, 1) := by decide +kernel
theorem d_Mod_done_195 : decode b_Mod_done 195 = .ok (.getfield 63, 3) := by decide +kernel
theorem d_Mod_done_198 : decode b_Mod_done 198 = .ok (.iconst 1, 1) := by decide +kernel
theorem d_Mod_done_199 : decode b_Mod_done 199 = .ok (.iaload, 1) := by decide +kernel
theorem d_Mod_done_200 : decode b_Mod_done 200 = .ok (.iastore, 1) := by decide +kernel
theorem d_Mod_done_201 : decode b_Mod_done 201 = .ok (.iload_n 1, 1) := by decide +kernel
theorem d_Mod_done_202 : decode b_Mod_done 202 = .ok (.iconst 1, 1) := by decide +kernel
theorem d_Mod_done_203 : decode b_Mod_done 203 = .ok (.iadd, 1) := by decide +kernel
theorem d_Mod_done_204 : decode b_Mod_done 204 = .ok (.ireturn, 1) := by decide +kernel
theorem d_Mod_done_205 : decode b_Mod_done 205 = .ok (.aload_n 0, 1) := by decide +kernel
theorem d_Mod_done_206 : decode b_Mod_done 206 = .ok (.getfield 63, 3) := by decide +kernel
theorem d_Mod_done_209 : decode b_Mod_done 209 = .ok (.iload 4, 2) := by decide +kernel
theorem d_Mod_done_211 : decode b_Mod_done 211 = .ok (.iconst 1, 1) := by decide +kernel
theorem d_Mod_done_212 : decode b_Mod_done 212 = .ok (.isub, 1) := by decide +kernel
theorem d_Mod_done_213 : decode b_Mod_done 213 = .ok (.iaload, 1) := by decide +kernel
theorem d_Mod_done_214 : decode b_Mod_done 214 = .ok (.bipush 16, 2) := by decide +kernel
theorem d_Mod_done_216 : decode b_Mod_done 216 = .ok (.ishr, 1) := by decide +kernel
theorem d_Mod_done_217 : decode b_Mod_done 217 = .ok (.bipush 15, 2) := by decide +kernel
theorem d_Mod_done_219 : decode b_Mod_done 219 = .ok (.iand, 1) := by decide +kernel
theorem d_Mod_done_220 : decode b_Mod_done 220 = .ok (.istore 5, 2) := by decide +kernel
theorem d_Mod_done_222 : decode b_Mod_done 222 = .ok (.iload_n 2, 1) := by decide +kernel
theorem d_Mod_done_223 : decode b_Mod_done 223 = .ok (.bipush 14, 2) := by decide +kernel
theorem d_Mod_done_225 : decode b_Mod_done 225 = .ok (.if_icmp .ne 18, 3) := by decide +kernel
theorem d_Mod_done_228 : decode b_Mod_done 228 = .ok (.aload_n 0, 1) := by decide +kernel
theorem d_Mod_done_229 : decode b_Mod_done 229 = .ok (.iconst 0, 1) := by decide +kernel
theorem d_Mod_done_230 : decode b_Mod_done 230 = .ok (.iconst 0, 1) := by decide +kernel
theorem d_Mod_done_231 : decode b_Mod_done 231 = .ok (.bipush 15, 2) := by decide +kernel
theorem d_Mod_done_233 : decode b_Mod_done 233 = .ok (.bipush 15, 2) := by decide +kernel
theorem d_Mod_done_235 : decode b_Mod_done 235 = .ok (.iload 5, 2) := by decide +kernel
theorem d_Mod_done_237 : decode b_Mod_done 237 = .ok (.invokevirtual 189, 3) := by decide +kernel
theorem d_Mod_done_240 : decode b_Mod_done 240 = .ok (.goto 130, 3) := by decide +kernel
theorem d_Mod_done_243 : decode b_Mod_done 243 = .ok (.iload_n 2, 1) := by decide +kernel
theorem d_Mod_done_244 : decode b_Mod_done 244 = .ok (.bipush 15, 2) := by decide +kernel
theorem d_Mod_done_246 : decode b_Mod_done 246 = .ok (.if_icmp .ne 31, 3) := by decide +kernel
theorem d_Mod_done_249 : decode b_Mod_done 249 = .ok (.aload_n 0, 1) := by decide +kernel
theorem d_Mod_done_250 : decode b_Mod_done 250 = .ok (.aload_n 0, 1) := by decide +kernel
theorem d_Mod_done_251 : decode b_Mod_done 251 = .ok (.getfield 63, 3) := by decide +kernel
theorem d_Mod_done_254 : decode b_Mod_done 254 = .ok (.iconst 0, 1) := by decide +kernel
theorem d_Mod_done_255 : decode b_Mod_done 255 = .ok (.iaload, 1) := by decide +kernel
theorem d_Mod_done_256 : decode b_Mod_done 256 = .ok (.bipush 16, 2) := by decide +kernel
theorem d_Mod_done_258 : decode b_Mod_done 258 = .ok (.ishr, 1) := by decide +kernel
theorem d_Mod_done_259 : decode b_Mod_done 259 = .ok (.aload_n 0, 1) := by decide +kernel
theorem d_Mod_done_260 : decode b_Mod_done 260 = .ok (.getfield 63, 3) := by decide +kernel
theorem d_Mod_done_263 : decode b_Mod_done 263 = .ok (.iconst 1, 1) := by decide +kernel
theorem d_Mod_done_264 : decode b_Mod_done 264 = .ok (.iaload, 1) := by decide +kernel
theorem d_Mod_done_265 : decode b_Mod_done 265 = .ok (.bipush 16, 2) := by decide +kernel
theorem d_Mod_done_267 : decode b_Mod_done 267 = .ok (.ishr, 1) := by decide +kernel
theorem d_Mod_done_268 : decode b_Mod_done 268 = .ok (.iload 5, 2) := by decide +kernel
theorem d_Mod_done_270 : decode b_Mod_done 270 = .ok (.iconst 1, 1) := by decide +kernel
theorem d_Mod_done_271 : decode b_Mod_done 271 = .ok (.invokevirtual 193, 3) := by decide +kernel
theorem d_Mod_done_274 : decode b_Mod_done 274 = .ok (.goto 96, 3) := by decide +kernel
theorem d_Mod_done_277 : decode b_Mod_done 277 = .ok (.iload_n 2, 1) := by decide +kernel
theorem d_Mod_done_278 : decode b_Mod_done 278 = .ok (.bipush 17, 2) := by decide +kernel
theorem d_Mod_done_280 : decode b_Mod_done 280 = .ok (.if_icmp .ne 48, 3) := by decide +kernel
theorem d_Mod_done_283 : decode b_Mod_done 283 = .ok (.aload_n 0, 1) := by decide +kernel
theorem d_Mod_done_284 : decode b_Mod_done 284 = .ok (.aload_n 0, 1) := by decide +kernel
theorem d_Mod_done_285 : decode b_Mod_done 285 = .ok (.getfield 63, 3) := by decide +kernel
theorem d_Mod_done_288 : decode b_Mod_done 288 = .ok (.iconst 0, 1) := by decide +kernel
theorem d_Mod_done_289 : decode b_Mod_done 289 = .ok (.iaload, 1) := by decide +kernel
theorem d_Mod_done_290 : decode b_Mod_done 290 = .ok (.bipush 16, 2) := by decide +kernel
theorem d_Mod_done_292 : decode b_Mod_done 292 = .ok (.ishr, 1) := by decide +kernel
theorem d_Mod_done_293 : decode b_Mod_done 293 = .ok (.aload_n 0, 1) := by decide +kernel
theorem d_Mod_done_294 : decode b_Mod_done 294 = .ok (.getfield 63, 3) := by decide +kernel
theorem d_Mod_done_297 : decode b_Mod_done 297 = .ok (.iconst 1, 1) := by decide +kernel
theorem d_Mod_done_298 : decode b_Mod_done 298 = .ok (.iaload, 1) := by decide +kernel
theorem d_Mod_done_299 : decode b_Mod_done 299 = .ok (.bipush 16, 2) := by decide +kernel
theorem d_Mod_done_301 : decode b_Mod_done 301 = .ok (.ishr, 1) := by decide +kernel
theorem d_Mod_done_302 : decode b_Mod_done 302 = .ok (.aload_n 0, 1) := by decide +kernel
theorem d_Mod_done_303 : decode b_Mod_done 303 = .ok (.getfield 63, 3) := by decide +kernel
theorem d_Mod_done_306 : decode b_Mod_done 306 = .ok (.iconst 2, 1) := by decide +kernel
theorem d_Mod_done_307 : decode b_Mod_done 307 = .ok (.iaload, 1) := by decide +kernel
theorem d_Mod_done_308 : decode b_Mod_done 308 = .ok (.bipush 16, 2) := by decide +kernel
theorem d_Mod_done_310 : decode b_Mod_done 310 = .ok (.ishr, 1) := by decide +kernel
theorem d_Mod_done_311 : decode b_Mod_done 311 = .ok (.aload_n 0, 1) := by decide +kernel
theorem d_Mod_done_312 : decode b_Mod_done 312 = .ok (.getfield 63, 3) := by decide +kernel
theorem d_Mod_done_315 : decode b_Mod_done 315 = .ok (.iconst 3, 1) := by decide +kernel
theorem d_Mod_done_316 : decode b_Mod_done 316 = .ok (.iaload, 1) := by decide +kernel
theorem d_Mod_done_317 : decode b_Mod_done 317 = .ok (.bipush 16, 2) := by decide +kernel
theorem d_Mod_done_319 : decode b_Mod_done 319 = .ok (.ishr, 1) := by decide +kernel
theorem d_Mod_done_320 : decode b_Mod_done 320 = .ok (.iload 5, 2) := by decide +kernel
theorem d_Mod_done_322 : decode b_Mod_done 322 = .ok (.invokevirtual 189, 3) := by decide +kernel
theorem d_Mod_done_325 : decode b_Mod_done 325 = .ok (.goto 45, 3) := by decide +kernel
theorem d_Mod_done_328 : decode b_Mod_done 328 = .ok (.aload_n 0, 1) := by decide +kernel
theorem d_Mod_done_329 : decode b_Mod_done 329 = .ok (.aload_n 0, 1) := by decide +kernel
theorem d_Mod_done_330 : decode b_Mod_done 330 = .ok (.getfield 63, 3) := by decide +kernel
theorem d_Mod_done_333 : decode b_Mod_done 333 = .ok (.iconst 0, 1) := by decide +kernel
theorem d_Mod_done_334 : decode b_Mod_done 334 = .ok (.iaload, 1) := by decide +kernel
theorem d_Mod_done_335 : decode b_Mod_done 335 = .ok (.bipush 16, 2) := by decide +kernel
theorem d_Mod_done_337 : decode b_Mod_done 337 = .ok (.ishr, 1) := by decide +kernel
theorem d_Mod_done_338 : decode b_Mod_done 338 = .ok (.aload_n 0, 1) := by decide +kernel
theorem d_Mod_done_339 : decode b_Mod_done 339 = .ok (.getfield 63, 3) := by decide +kernel
theorem d_Mod_done_342 : decode b_Mod_done 342 = .ok (.iconst 1, 1) := by decide +kernel
theorem d_Mod_done_343 : decode b_Mod_done 343 = .ok (.iaload, 1) := by decide +kernel
theorem d_Mod_done_344 : decode b_Mod_done 344 = .ok (.bipush 16, 2) := by decide +kernel
theorem d_Mod_done_346 : decode b_Mod_done 346 = .ok (.ishr, 1) := by decide +kernel
theorem d_Mod_done_347 : decode b_Mod_done 347 = .ok (.aload_n 0, 1) := by decide +kernel
theorem d_Mod_done_348 : decode b_Mod_done 348 = .ok (.getfield 63, 3) := by decide +kernel
theorem d_Mod_done_351 : decode b_Mod_done 351 = .ok (.iconst 2, 1) := by decide +kernel
theorem d_Mod_done_352 : decode b_Mod_done 352 = .ok (.iaload, 1) := by decide +kernel
theorem d_Mod_done_353 : decode b_Mod_done 353 = .ok (.bipush 16, 2) := by decide +kernel
theorem d_Mod_done_355 : decode b_Mod_done 355 = .ok (.ishr, 1) := by decide +kernel
theorem d_Mod_done_356 : decode b_Mod_done 356 = .ok (.aload_n 0, 1) := by decide +kernel
theorem d_Mod_done_357 : decode b_Mod_done 357 = .ok (.getfield 63, 3) := by decide +kernel
theorem d_Mod_done_360 : decode b_Mod_done 360 = .ok (.iconst 3, 1) := by decide +kernel
theorem d_Mod_done_361 : decode b_Mod_done 361 = .ok (.iaload, 1) := by decide +kernel
theorem d_Mod_done_362 : decode b_Mod_done 362 = .ok (.bipush 16, 2) := by decide +kernel
theorem d_Mod_done_364 : decode b_Mod_done 364 = .ok (.ishr, 1) := by decide +kernel
theorem d_Mod_done_365 : decode b_Mod_done 365 = .ok (.iload 5, 2) := by decide +kernel
theorem d_Mod_done_367 : decode b_Mod_done 367 = .ok (.invokevirtual 197, 3) := by decide +kernel
theorem d_Mod_done_370 : decode b_Mod_done 370 = .ok (.iload_n 1, 1) := by decide +kernel
theorem d_Mod_done_371 : decode b_Mod_done 371 = .ok (.iconst 1, 1) := by decide +kernel
theorem d_Mod_done_372 : decode b_Mod_done 372 = .ok (.iadd, 1) := by decide +kernel
theorem d_Mod_done_373 : decode b_Mod_done 373 = .ok (.ireturn, 1) := by decide +kernel
def μ_Mod_done : ax_M := (b_Mod_done, 6, "DotConsoleModel", (some .int), 6, 143, 0, 0)
theorem Y_Mod_done : ax_YV μ_Mod_done y_Mod_done 2 := ⟨⟨ax_mem (by decide +kernel) rfl, ax_mem (by decide +kernel) rfl, by decide, by decide, by decide +kernel⟩, ax_mem (by decide +kernel) rfl, ax_mem (by decide +kernel) rfl⟩
theorem km_Mod_197 : Cond.methodLink "DotConsoleModel" 197 ⟨"DotConsoleModel", "stroke", "(IIIII)V"⟩ ∈ ax_T := ax_mem (by decide +kernel) rfl
theorem km_Mod_189 : Cond.methodLink "DotConsoleModel" 189 ⟨"DotConsoleModel", "box", "(IIIII)V"⟩ ∈ ax_T := ax_mem (by decide +kernel) rfl
def J_Mod_done_135 (N : Nat) (l1 : Int32) (σ : St) : Option (Int32 × St) :=
  (if (inB 0 6) = true then (if (σ.2 15 (0 : Int32).toNatClampNeg) = 0 then
  (if (inB l1 30) = true then some (((σ.2 8 l1.toNatClampNeg) + 1), σ) else none)
  else some ((l1 + 1), σ)) else none)
def J_Mod_done_91 (N : Nat) : Nat → Int32 → Int32 → Int32 → Int32 → St → Option (Int32 × St)
  | 0, _, _, _, _, _ => none
  | n + 1, l1, l2, l4, l5, σ => (if l4 ≤ l5 then
  (if l2 = 10 then
  J_Mod_done_135 N l1 σ
  else (if l2 = 12 then
  J_Mod_done_135 N l1 σ
  else (if l2 = 18 then
  (if (inB 0 6) = true then ax_let (((σ.2 15 (0 : Int32).toNatClampNeg) >>> (16 &&& 31) : Int32) : Int32) (fun v3 =>
  (if v3 < 0 then
  some ((l1 + 1), σ)
  else (if 32 ≤ v3 then
  some ((l1 + 1), σ)
  else (if (inB 1 6) = true then (if (inB v3 32) = true then ax_let (sA σ 9 v3.toNatClampNeg (σ.2 15 (1 : Int32).toNatClampNeg)) (fun σ9 =>
  some ((l1 + 1), σ9)) else none) else none)))) else none)
  else (if (inB (l4 - 1) 6) = true then ax_let ((((σ.2 15 (l4 - 1).toNatClampNeg) >>> (16 &&& 31) : Int32) &&& 15) : Int32) (fun v2 =>
  (if l2 = 14 then
  ax_bindV (J_Mod_box N 0 0 15 15 v2 σ) (fun σ8 =>
  some ((l1 + 1), σ8))
  else (if l2 = 15 then
  (if (inB 0 6) = true then (if (inB 1 6) = true then ax_bindV (J_Mod_paint N ((σ.2 15 (0 : Int32).toNatClampNeg) >>> (16 &&& 31) : Int32) ((σ.2 15 (1 : Int32).toNatClampNeg) >>> (16 &&& 31) : Int32) v2 1 σ) (fun σ7 =>
  some ((l1 + 1), σ7)) else none) else none)
  else (if l2 = 17 then
  (if (inB 0 6) = true then (if (inB 1 6) = true then (if (inB 2 6) = true then (if (inB 3 6) = true then ax_bindV (J_Mod_box N ((σ.2 15 (0 : Int32).toNatClampNeg) >>> (16 &&& 31) : Int32) ((σ.2 15 (1 : Int32).toNatClampNeg) >>> (16 &&& 31) : Int32) ((σ.2 15 (2 : Int32).toNatClampNeg) >>> (16 &&& 31) : Int32) ((σ.2 15 (3 : Int32).toNatClampNeg) >>> (16 &&& 31) : Int32) v2 σ) (fun σ6 =>
  some ((l1 + 1), σ6)) else none) else none) else none) else none)
  else (if (inB 0 6) = true then (if (inB 1 6) = true then (if (inB 2 6) = true then (if (inB 3 6) = true then ax_bindV (J_Mod_stroke N ((σ.2 15 (0 : Int32).toNatClampNeg) >>> (16 &&& 31) : Int32) ((σ.2 15 (1 : Int32).toNatClampNeg) >>> (16 &&& 31) : Int32) ((σ.2 15 (2 : Int32).toNatClampNeg) >>> (16 &&& 31) : Int32) ((σ.2 15 (3 : Int32).toNatClampNeg) >>> (16 &&& 31) : Int32) v2 σ) (fun σ5 =>
  some ((l1 + 1), σ5)) else none) else none) else none) else none))))) else none))))
  else ax_bind (J_Mod_work N l1 ((σ.1 10) + 1) 1 σ) (fun r3 σ10 =>
  (if (inB l5 6) = true then ax_let (sA σ10 15 l5.toNatClampNeg r3) (fun σ11 =>
  ax_let ((l5 + 1) : Int32) (fun v4 =>
  J_Mod_done_91 N n l1 l2 l4 v4 σ11)) else none)))
def J_Mod_done (N : Nat) (a1 : Int32) (a2 : Int32) (σ : St) : Option (Int32 × St) :=
  ax_let ((48 * a1) : Int32) (fun v1 =>
  (if a2 = 11 then
  (if (inB a1 30) = true then some (((σ.2 8 a1.toNatClampNeg) + 1), σ) else none)
  else (if a2 = 13 then
  (if (inB a1 30) = true then (if (σ.2 8 a1.toNatClampNeg) < 0 then
  some ((a1 + 1), σ)
  else (if (inB a1 30) = true then some ((σ.2 8 a1.toNatClampNeg), σ) else none)) else none)
  else (if a2 = 2 then
  (if (inB v1 1400) = true then ax_bind (J_Mod_work N a1 (v1 + 2) 1 σ) (fun r2 σ3 =>
  (if (inB (σ.2 2 v1.toNatClampNeg) 64) = true then ax_let (sA σ3 7 (σ.2 2 v1.toNatClampNeg).toNatClampNeg r2) (fun σ4 =>
  some ((a1 + 1), σ4)) else none)) else none)
  else ax_bind (J_Mod_wants N a2 σ) (fun r1 σ1 =>
  ax_let (sF σ1 10 v1) (fun σ2 =>
  J_Mod_done_91 N N a1 a2 r1 0 σ2))))))
set_option maxHeartbeats 1000000 in
theorem t_Mod_done_135 {N : Nat} {g : ax_G} {r9 : Int32} {s9 : St} (x : ax_X) (A : Nat → Prop) : ∀ (l1 : Int32) (σ : St), J_Mod_done_135 N l1 σ = some (r9, s9) → AW x μ_Mod_done g A (wM g) (0, 0) (ax_QI x μ_Mod_done g A (wM g) (ax_eqI r9 s9)) 135 [(0, .ref (g.2.1 32)), (1, .int l1)] [] σ := by
  intro l1 σ hJ
  rw [J_Mod_done_135] at hJ
  refine aw_aload_n (n := 136) d_Mod_done_135 rfl rfl 0 rfl ?_
  refine gf_Mod_args (n := 139) d_Mod_done_136 rfl kf_Mod_63 ?_
  refine aw_iconst (n := 140) (v := 0) d_Mod_done_139 rfl (by decide) ?_
  obtain ⟨h21, hJ⟩ := ax_need hJ
  refine al_48 (n := 141) d_Mod_done_140 rfl h21 ?_
  refine aw_if_eq (n := 144) (t := 150) d_Mod_done_141 rfl (by decide) (fun c14 => ?_) (fun c14 => ?_)
  · rw [if_pos c14] at hJ
    refine aw_aload_n (n := 151) d_Mod_done_150 rfl rfl 0 rfl ?_
    refine gf_Mod_other (n := 154) d_Mod_done_151 rfl kf_Mod_39 ?_
    refine aw_iload_n (n := 155) d_Mod_done_154 rfl rfl 1 rfl ?_
    obtain ⟨h22, hJ⟩ := ax_need hJ
    refine al_41 (n := 156) d_Mod_done_155 rfl h22 ?_
    refine aw_iconst (n := 157) (v := 1) d_Mod_done_156 rfl (by decide) ?_
    refine aw_iadd (n := 158) d_Mod_done_157 rfl ?_
    exact aw_iret d_Mod_done_158 rfl (ax_ret hJ)
  · rw [if_neg c14] at hJ
    refine aw_iload_n (n := 145) d_Mod_done_144 rfl rfl 1 rfl ?_
    refine aw_iconst (n := 146) (v := 1) d_Mod_done_145 rfl (by decide) ?_
    refine aw_iadd (n := 147) d_Mod_done_146 rfl ?_
    refine aw_goto (t := 158) d_Mod_done_147 (by decide) ?_
    exact aw_iret d_Mod_done_158 rfl (ax_ret hJ)
set_option maxHeartbeats 1000000 in
theorem t_Mod_done_91 {N : Nat} {g : ax_G} {r9 : Int32} {s9 : St} (x : ax_X) (A : Nat → Prop) : ∀ (n : Nat) (l1 : Int32) (l2 : Int32) (l4 : Int32) (l5 : Int32) (σ : St), J_Mod_done_91 N n l1 l2 l4 l5 σ = some (r9, s9) → AW x μ_Mod_done g A (wM g) (0, 0) (ax_QI x μ_Mod_done g A (wM g) (ax_eqI r9 s9)) 91 [(0, .ref (g.2.1 32)), (1, .int l1), (2, .int l2), (4, .int l4), (5, .int l5)] [] σ := by
  intro n
  induction n with
  | zero => intro l1 l2 l4 l5 σ hJ; rw [J_Mod_done_91] at hJ; cases hJ
  | succ n ih =>
    intro l1 l2 l4 l5 σ hJ
    rw [J_Mod_done_91] at hJ
    refine aw_iload (n := 93) d_Mod_done_91 rfl 4 rfl ?_
    refine aw_iload (n := 95) d_Mod_done_93 rfl 3 rfl ?_
    refine aw_icmp_ge (n := 98) (t := 123) d_Mod_done_95 rfl (by decide) (fun c5 => ?_) (fun c5 => ?_)
    · rw [if_pos c5] at hJ
      refine aw_iload_n (n := 124) d_Mod_done_123 rfl rfl 2 rfl ?_
      refine aw_bipush (n := 126) (v := 10) d_Mod_done_124 rfl (by decide) ?_
      refine aw_icmp_eq (n := 129) (t := 135) d_Mod_done_126 rfl (by decide) (fun c6 => ?_) (fun c6 => ?_)
      · rw [if_pos c6] at hJ
        refine aw_sub [0, 1] rfl ?_
        exact t_Mod_done_135 x A _ _ hJ
      · rw [if_neg c6] at hJ
        refine aw_iload_n (n := 130) d_Mod_done_129 rfl rfl 2 rfl ?_
        refine aw_bipush (n := 132) (v := 12) d_Mod_done_130 rfl (by decide) ?_
        refine aw_icmp_ne (n := 135) (t := 159) d_Mod_done_132 rfl (by decide) (fun c7 => ?_) (fun c7 => ?_)
        · rw [if_neg c7] at hJ
          refine aw_iload_n (n := 160) d_Mod_done_159 rfl rfl 2 rfl ?_
          refine aw_bipush (n := 162) (v := 18) d_Mod_done_160 rfl (by decide) ?_
          refine aw_icmp_ne (n := 165) (t := 205) d_Mod_done_162 rfl (by decide) (fun c8 => ?_) (fun c8 => ?_)
          · rw [if_neg c8] at hJ
            refine aw_aload_n (n := 206) d_Mod_done_205 rfl rfl 0 rfl ?_
            refine gf_Mod_args (n := 209) d_Mod_done_206 rfl kf_Mod_63 ?_
            refine aw_iload (n := 211) d_Mod_done_209 rfl 3 rfl ?_
            refine aw_iconst (n := 212) (v := 1) d_Mod_done_211 rfl (by decide) ?_
            refine aw_isub (n := 213) d_Mod_done_212 rfl ?_
            obtain ⟨h6, hJ⟩ := ax_need hJ
            refine al_48 (n := 214) d_Mod_done_213 rfl h6 ?_
            refine aw_bipush (n := 216) (v := 16) d_Mod_done_214 rfl (by decide) ?_
            refine aw_ishr (n := 217) d_Mod_done_216 rfl ?_
            refine aw_bipush (n := 219) (v := 15) d_Mod_done_217 rfl (by decide) ?_
            refine aw_iand (n := 220) d_Mod_done_219 rfl ?_
            obtain ⟨v2, ev2, hJ⟩ := ax_letE hJ
            refine aw_top ev2 ?_
            refine aw_istore (n := 222) d_Mod_done_220 rfl (by decide) rfl ?_
            refine aw_iload_n (n := 223) d_Mod_done_222 rfl rfl 3 rfl ?_
            refine aw_bipush (n := 225) (v := 14) d_Mod_done_223 rfl (by decide) ?_
            refine aw_icmp_ne (n := 228) (t := 243) d_Mod_done_225 rfl (by decide) (fun c9 => ?_) (fun c9 => ?_)
            · rw [if_neg c9] at hJ
              refine aw_iload_n (n := 244) d_Mod_done_243 rfl rfl 3 rfl ?_
              refine aw_bipush (n := 246) (v := 15) d_Mod_done_244 rfl (by decide) ?_
              refine aw_icmp_ne (n := 249) (t := 277) d_Mod_done_246 rfl (by decide) (fun c10 => ?_) (fun c10 => ?_)
              · rw [if_neg c10] at hJ
                refine aw_iload_n (n := 278) d_Mod_done_277 rfl rfl 3 rfl ?_
                refine aw_bipush (n := 280) (v := 17) d_Mod_done_278 rfl (by decide) ?_
                refine aw_icmp_ne (n := 283) (t := 328) d_Mod_done_280 rfl (by decide) (fun c11 => ?_) (fun c11 => ?_)
                · rw [if_neg c11] at hJ
                  refine aw_aload_n (n := 329) d_Mod_done_328 rfl rfl 1 rfl ?_
                  refine aw_aload_n (n := 330) d_Mod_done_329 rfl rfl 1 rfl ?_
                  refine gf_Mod_args (n := 333) d_Mod_done_330 rfl kf_Mod_63 ?_
                  refine aw_iconst (n := 334) (v := 0) d_Mod_done_333 rfl (by decide) ?_
                  obtain ⟨h7, hJ⟩ := ax_need hJ
                  refine al_48 (n := 335) d_Mod_done_334 rfl h7 ?_
                  refine aw_bipush (n := 337) (v := 16) d_Mod_done_335 rfl (by decide) ?_
                  refine aw_ishr (n := 338) d_Mod_done_337 rfl ?_
                  refine aw_aload_n (n := 339) d_Mod_done_338 rfl rfl 1 rfl ?_
                  refine gf_Mod_args (n := 342) d_Mod_done_339 rfl kf_Mod_63 ?_
                  refine aw_iconst (n := 343) (v := 1) d_Mod_done_342 rfl (by decide) ?_
                  obtain ⟨h8, hJ⟩ := ax_need hJ
                  refine al_48 (n := 344) d_Mod_done_343 rfl h8 ?_
                  refine aw_bipush (n := 346) (v := 16) d_Mod_done_344 rfl (by decide) ?_
                  refine aw_ishr (n := 347) d_Mod_done_346 rfl ?_
                  refine aw_aload_n (n := 348) d_Mod_done_347 rfl rfl 1 rfl ?_
                  refine gf_Mod_args (n := 351) d_Mod_done_348 rfl kf_Mod_63 ?_
                  refine aw_iconst (n := 352) (v := 2) d_Mod_done_351 rfl (by decide) ?_
                  obtain ⟨h9, hJ⟩ := ax_need hJ
                  refine al_48 (n := 353) d_Mod_done_352 rfl h9 ?_
                  refine aw_bipush (n := 355) (v := 16) d_Mod_done_353 rfl (by decide) ?_
                  refine aw_ishr (n := 356) d_Mod_done_355 rfl ?_
                  refine aw_aload_n (n := 357) d_Mod_done_356 rfl rfl 1 rfl ?_
                  refine gf_Mod_args (n := 360) d_Mod_done_357 rfl kf_Mod_63 ?_
                  refine aw_iconst (n := 361) (v := 3) d_Mod_done_360 rfl (by decide) ?_
                  obtain ⟨h10, hJ⟩ := ax_need hJ
                  refine al_48 (n := 362) d_Mod_done_361 rfl h10 ?_
                  refine aw_bipush (n := 364) (v := 16) d_Mod_done_362 rfl (by decide) ?_
                  refine aw_ishr (n := 365) d_Mod_done_364 rfl ?_
                  refine aw_iload (n := 367) d_Mod_done_365 rfl 0 rfl ?_
                  obtain ⟨σ5, hc3, hJ⟩ := ax_bindVE hJ
                  refine aw_callVv (n := 370) (c_Mod_stroke hc3) 0 rfl rfl Y_Mod_stroke km_Mod_197 (by decide) (by decide) rfl rfl (Nat.le_of_ble_eq_true rfl) d_Mod_done_367 rfl (fun s9 hp => ?_)
                  subst hp
                  refine aw_iload_n (n := 371) d_Mod_done_370 rfl rfl 2 rfl ?_
                  refine aw_iconst (n := 372) (v := 1) d_Mod_done_371 rfl (by decide) ?_
                  refine aw_iadd (n := 373) d_Mod_done_372 rfl ?_
                  exact aw_iret d_Mod_done_373 rfl (ax_ret hJ)
                · rw [if_pos c11] at hJ
                  refine aw_aload_n (n := 284) d_Mod_done_283 rfl rfl 1 rfl ?_
                  refine aw_aload_n (n := 285) d_Mod_done_284 rfl rfl 1 rfl ?_
                  refine gf_Mod_args (n := 288) d_Mod_done_285 rfl kf_Mod_63 ?_
                  refine aw_iconst (n := 289) (v := 0) d_Mod_done_288 rfl (by decide) ?_
                  obtain ⟨h11, hJ⟩ := ax_need hJ
                  refine al_48 (n := 290) d_Mod_done_289 rfl h11 ?_
                  refine aw_bipush (n := 292) (v := 16) d_Mod_done_290 rfl (by decide) ?_
                  refine aw_ishr (n := 293) d_Mod_done_292 rfl ?_
                  refine aw_aload_n (n := 294) d_Mod_done_293 rfl rfl 1 rfl ?_
                  refine gf_Mod_args (n := 297) d_Mod_done_294 rfl kf_Mod_63 ?_
                  refine aw_iconst (n := 298) (v := 1) d_Mod_done_297 rfl (by decide) ?_
                  obtain ⟨h12, hJ⟩ := ax_need hJ
                  refine al_48 (n := 299) d_Mod_done_298 rfl h12 ?_
                  refine aw_bipush (n := 301) (v := 16) d_Mod_done_299 rfl (by decide) ?_
                  refine aw_ishr (n := 302) d_Mod_done_301 rfl ?_
                  refine aw_aload_n (n := 303) d_Mod_done_302 rfl rfl 1 rfl ?_
                  refine gf_Mod_args (n := 306) d_Mod_done_303 rfl kf_Mod_63 ?_
                  refine aw_iconst (n := 307) (v := 2) d_Mod_done_306 rfl (by decide) ?_
                  obtain ⟨h13, hJ⟩ := ax_need hJ
                  refine al_48 (n := 308) d_Mod_done_307 rfl h13 ?_
                  refine aw_bipush (n := 310) (v := 16) d_Mod_done_308 rfl (by decide) ?_
                  refine aw_ishr (n := 311) d_Mod_done_310 rfl ?_
                  refine aw_aload_n (n := 312) d_Mod_done_311 rfl rfl 1 rfl ?_
                  refine gf_Mod_args (n := 315) d_Mod_done_312 rfl kf_Mod_63 ?_
                  refine aw_iconst (n := 316) (v := 3) d_Mod_done_315 rfl (by decide) ?_
                  obtain ⟨h14, hJ⟩ := ax_need hJ
                  refine al_48 (n := 317) d_Mod_done_316 rfl h14 ?_
                  refine aw_bipush (n := 319) (v := 16) d_Mod_done_317 rfl (by decide) ?_
                  refine aw_ishr (n := 320) d_Mod_done_319 rfl ?_
                  refine aw_iload (n := 322) d_Mod_done_320 rfl 0 rfl ?_
                  obtain ⟨σ6, hc4, hJ⟩ := ax_bindVE hJ
                  refine aw_callVv (n := 325) (c_Mod_box hc4) 0 rfl rfl Y_Mod_box km_Mod_189 (by decide) (by decide) rfl rfl (Nat.le_of_ble_eq_true rfl) d_Mod_done_322 rfl (fun s9 hp => ?_)
                  subst hp
                  refine aw_goto (t := 370) d_Mod_done_325 (by decide) ?_
                  refine aw_iload_n (n := 371) d_Mod_done_370 rfl rfl 2 rfl ?_
                  refine aw_iconst (n := 372) (v := 1) d_Mod_done_371 rfl (by decide) ?_
                  refine aw_iadd (n := 373) d_Mod_done_372 rfl ?_
                  exact aw_iret d_Mod_done_373 rfl (ax_ret hJ)
              · rw [if_pos c10] at hJ
                refine aw_aload_n (n := 250) d_Mod_done_249 rfl rfl 1 rfl ?_
                refine aw_aload_n (n := 251) d_Mod_done_250 rfl rfl 1 rfl ?_
                refine gf_Mod_args (n := 254) d_Mod_done_251 rfl kf_Mod_63 ?_
                refine aw_iconst (n := 255) (v := 0) d_Mod_done_254 rfl (by decide) ?_
                obtain ⟨h15, hJ⟩ := ax_need hJ
                refine al_48 (n := 256) d_Mod_done_255 rfl h15 ?_
                refine aw_bipush (n := 258) (v := 16) d_Mod_done_256 rfl (by decide) ?_
                refine aw_ishr (n := 259) d_Mod_done_258 rfl ?_
                refine aw_aload_n (n := 260) d_Mod_done_259 rfl rfl 1 rfl ?_
                refine gf_Mod_args (n := 263) d_Mod_done_260 rfl kf_Mod_63 ?_
                refine aw_iconst (n := 264) (v := 1) d_Mod_done_263 rfl (by decide) ?_
                obtain ⟨h16, hJ⟩ := ax_need hJ
                refine al_48 (n := 265) d_Mod_done_264 rfl h16 ?_
                refine aw_bipush (n := 267) (v := 16) d_Mod_done_265 rfl (by decide) ?_
                refine aw_ishr (n := 268) d_Mod_done_267 rfl ?_
                refine aw_iload (n := 270) d_Mod_done_268 rfl 0 rfl ?_
                refine aw_iconst (n := 271) (v := 1) d_Mod_done_270 rfl (by decide) ?_
                obtain ⟨σ7, hc5, hJ⟩ := ax_bindVE hJ
                refine aw_callVv (n := 274) (c_Mod_paint hc5) 0 rfl rfl Y_Mod_paint km_Mod_193 (by decide) (by decide) rfl rfl (Nat.le_of_ble_eq_true rfl) d_Mod_done_271 rfl (fun s9 hp => ?_)
                subst hp
                refine aw_goto (t := 370) d_Mod_done_274 (by decide) ?_
                refine aw_iload_n (n := 371) d_Mod_done_370 rfl rfl 2 rfl ?_
                refine aw_iconst (n := 372) (v := 1) d_Mod_done_371 rfl (by decide) ?_
                refine aw_iadd (n := 373) d_Mod_done_372 rfl ?_
                exact aw_iret d_Mod_done_373 rfl (ax_ret hJ)
            · rw [if_pos c9] at hJ
              refine aw_aload_n (n := 229) d_Mod_done_228 rfl rfl 1 rfl ?_
              refine aw_iconst (n := 230) (v := 0) d_Mod_done_229 rfl (by decide) ?_
              refine aw_iconst (n := 231) (v := 0) d_Mod_done_230 rfl (by decide) ?_
              refine aw_bipush (n := 233) (v := 15) d_Mod_done_231 rfl (by decide) ?_
              refine aw_bipush (n := 235) (v := 15) d_Mod_done_233 rfl (by decide) ?_
              refine aw_iload (n := 237) d_Mod_done_235 rfl 0 rfl ?_
              obtain ⟨σ8, hc6, hJ⟩ := ax_bindVE hJ
              refine aw_callVv (n := 240) (c_Mod_box hc6) 0 rfl rfl Y_Mod_box km_Mod_189 (by decide) (by decide) rfl rfl (Nat.le_of_ble_eq_true rfl) d_Mod_done_237 rfl (fun s9 hp => ?_)
              subst hp
              refine aw_goto (t := 370) d_Mod_done_240 (by decide) ?_
              refine aw_iload_n (n := 371) d_Mod_done_370 rfl rfl 2 rfl ?_
              refine aw_iconst (n := 372) (v := 1) d_Mod_done_371 rfl (by decide) ?_
              refine aw_iadd (n := 373) d_Mod_done_372 rfl ?_
              exact aw_iret d_Mod_done_373 rfl (ax_ret hJ)
          · rw [if_pos c8] at hJ
            refine aw_aload_n (n := 166) d_Mod_done_165 rfl rfl 0 rfl ?_
            refine gf_Mod_args (n := 169) d_Mod_done_166 rfl kf_Mod_63 ?_
            refine aw_iconst (n := 170) (v := 0) d_Mod_done_169 rfl (by decide) ?_
            obtain ⟨h17, hJ⟩ := ax_need hJ
            refine al_48 (n := 171) d_Mod_done_170 rfl h17 ?_
            refine aw_bipush (n := 173) (v := 16) d_Mod_done_171 rfl (by decide) ?_
            refine aw_ishr (n := 174) d_Mod_done_173 rfl ?_
            obtain ⟨v3, ev3, hJ⟩ := ax_letE hJ
            refine aw_top ev3 ?_
            refine aw_istore (n := 176) d_Mod_done_174 rfl (by decide) rfl ?_
            refine aw_iload (n := 178) d_Mod_done_176 rfl 0 rfl ?_
            refine aw_if_lt (n := 181) (t := 201) d_Mod_done_178 rfl (by decide) (fun c12 => ?_) (fun c12 => ?_)
            · rw [if_pos c12] at hJ
              refine aw_iload_n (n := 202) d_Mod_done_201 rfl rfl 2 rfl ?_
              refine aw_iconst (n := 203) (v := 1) d_Mod_done_202 rfl (by decide) ?_
              refine aw_iadd (n := 204) d_Mod_done_203 rfl ?_
              exact aw_iret d_Mod_done_204 rfl (ax_ret hJ)
            · rw [if_neg c12] at hJ
              refine aw_iload (n := 183) d_Mod_done_181 rfl 0 rfl ?_
              refine aw_bipush (n := 185) (v := 32) d_Mod_done_183 rfl (by decide) ?_
              refine aw_icmp_ge (n := 188) (t := 201) d_Mod_done_185 rfl (by decide) (fun c13 => ?_) (fun c13 => ?_)
              · rw [if_pos c13] at hJ
                refine aw_iload_n (n := 202) d_Mod_done_201 rfl rfl 2 rfl ?_
                refine aw_iconst (n := 203) (v := 1) d_Mod_done_202 rfl (by decide) ?_
                refine aw_iadd (n := 204) d_Mod_done_203 rfl ?_
                exact aw_iret d_Mod_done_204 rfl (ax_ret hJ)
              · rw [if_neg c13] at hJ
                refine aw_aload_n (n := 189) d_Mod_done_188 rfl rfl 1 rfl ?_
                refine gf_Mod_cells (n := 192) d_Mod_done_189 rfl kf_Mod_42 ?_
                refine aw_iload (n := 194) d_Mod_done_192 rfl 0 rfl ?_
                refine aw_aload_n (n := 195) d_Mod_done_194 rfl rfl 1 rfl ?_
                refine gf_Mod_args (n := 198) d_Mod_done_195 rfl kf_Mod_63 ?_
                refine aw_iconst (n := 199) (v := 1) d_Mod_done_198 rfl (by decide) ?_
                obtain ⟨h18, hJ⟩ := ax_need hJ
                refine al_48 (n := 200) d_Mod_done_199 rfl h18 ?_
                obtain ⟨h19, hJ⟩ := ax_need hJ
                refine as_42 (n := 201) d_Mod_done_200 rfl h19 ?_
                obtain ⟨σ9, eσ9, hJ⟩ := ax_letE hJ
                refine aw_let eσ9 ?_
                refine aw_iload_n (n := 202) d_Mod_done_201 rfl rfl 2 rfl ?_
                refine aw_iconst (n := 203) (v := 1) d_Mod_done_202 rfl (by decide) ?_
                refine aw_iadd (n := 204) d_Mod_done_203 rfl ?_
                exact aw_iret d_Mod_done_204 rfl (ax_ret hJ)
        · rw [if_pos c7] at hJ
          refine aw_sub [0, 1] rfl ?_
          exact t_Mod_done_135 x A _ _ hJ
    · rw [if_neg c5] at hJ
      refine aw_aload_n (n := 99) d_Mod_done_98 rfl rfl 0 rfl ?_
      refine gf_Mod_args (n := 102) d_Mod_done_99 rfl kf_Mod_63 ?_
      refine aw_iload (n := 104) d_Mod_done_102 rfl 4 rfl ?_
      refine aw_aload_n (n := 105) d_Mod_done_104 rfl rfl 0 rfl ?_
      refine aw_iload_n (n := 106) d_Mod_done_105 rfl rfl 1 rfl ?_
      refine aw_aload_n (n := 107) d_Mod_done_106 rfl rfl 0 rfl ?_
      refine gf_Mod_next (n := 110) d_Mod_done_107 rfl kf_Mod_130 ?_
      refine aw_iconst (n := 111) (v := 1) d_Mod_done_110 rfl (by decide) ?_
      refine aw_iadd (n := 112) d_Mod_done_111 rfl ?_
      refine aw_iconst (n := 113) (v := 1) d_Mod_done_112 rfl (by decide) ?_
      obtain ⟨r3, σ10, hc7, hJ⟩ := ax_bindE hJ
      refine aw_callVi (n := 116) (c_Mod_work hc7) 0 rfl rfl Y_Mod_work km_Mod_133 (by decide) (by decide) rfl rfl (Nat.le_of_ble_eq_true rfl) d_Mod_done_113 rfl (fun r9 s9 hp => ?_)
      obtain ⟨rfl, rfl⟩ := hp
      obtain ⟨h20, hJ⟩ := ax_need hJ
      refine as_48 (n := 117) d_Mod_done_116 rfl h20 ?_
      obtain ⟨σ11, eσ11, hJ⟩ := ax_letE hJ
      refine aw_let eσ11 ?_
      obtain ⟨v4, ev4, hJ⟩ := ax_letE hJ
      refine aw_iinc (n := 120) (j := 4) (v := v4) d_Mod_done_117 rfl rfl (ev4) (by decide) rfl ?_
      refine aw_goto (t := 91) d_Mod_done_120 (by decide) ?_
      refine aw_sub [1, 2, 3, 4, 0] rfl ?_
      exact ih _ _ _ _ _ hJ
set_option maxHeartbeats 1000000 in
theorem c_Mod_done {N : Nat} {g : ax_G} {a1 : Int32} {a2 : Int32} {σ : St} {r9 : Int32} {s9 : St} (hJ : J_Mod_done N a1 a2 σ = some (r9, s9)) : ax_CI μ_Mod_done g y_Mod_done (wM g) [.ref (g.2.1 32), .int a1, .int a2] σ (ax_eqI r9 s9) := by
  refine ax_CI.of (plainFor_of_name rfl) rfl (Nat.le_of_ble_eq_true rfl) (fun x A _ => ?_)
  show AW x μ_Mod_done g A (wM g) (0, 0) (ax_QI x μ_Mod_done g A (wM g) (ax_eqI r9 s9)) 0 [(0, .ref (g.2.1 32)), (1, .int a1), (2, .int a2)] [] σ
  rw [J_Mod_done] at hJ
  refine aw_bipush (n := 2) (v := 48) d_Mod_done_0 rfl (by decide) ?_
  refine aw_iload_n (n := 3) d_Mod_done_2 rfl rfl 1 rfl ?_
  refine aw_imul (n := 4) d_Mod_done_3 rfl ?_
  obtain ⟨v1, ev1, hJ⟩ := ax_letE hJ
  refine aw_top ev1 ?_
  refine aw_istore_n (n := 5) d_Mod_done_4 rfl rfl (by decide) rfl ?_
  refine aw_iload_n (n := 6) d_Mod_done_5 rfl rfl 3 rfl ?_
  refine aw_bipush (n := 8) (v := 11) d_Mod_done_6 rfl (by decide) ?_
  refine aw_icmp_ne (n := 11) (t := 20) d_Mod_done_8 rfl (by decide) (fun c1 => ?_) (fun c1 => ?_)
  · rw [if_neg c1] at hJ
    refine aw_iload_n (n := 21) d_Mod_done_20 rfl rfl 3 rfl ?_
    refine aw_bipush (n := 23) (v := 13) d_Mod_done_21 rfl (by decide) ?_
    refine aw_icmp_ne (n := 26) (t := 48) d_Mod_done_23 rfl (by decide) (fun c2 => ?_) (fun c2 => ?_)
    · rw [if_neg c2] at hJ
      refine aw_iload_n (n := 49) d_Mod_done_48 rfl rfl 3 rfl ?_
      refine aw_iconst (n := 50) (v := 2) d_Mod_done_49 rfl (by decide) ?_
      refine aw_icmp_ne (n := 53) (t := 77) d_Mod_done_50 rfl (by decide) (fun c3 => ?_) (fun c3 => ?_)
      · rw [if_neg c3] at hJ
        refine aw_iload_n (n := 78) d_Mod_done_77 rfl rfl 3 rfl ?_
        obtain ⟨r1, σ1, hc1, hJ⟩ := ax_bindE hJ
        refine aw_callSi (n := 81) (c_Mod_wants hc1) Y_Mod_wants km_Mod_103 (by decide) (by decide) rfl rfl (Nat.le_of_ble_eq_true rfl) d_Mod_done_78 rfl (fun r9 s9 hp => ?_)
        obtain ⟨rfl, rfl⟩ := hp
        refine aw_istore (n := 83) d_Mod_done_81 rfl (by decide) rfl ?_
        refine aw_aload_n (n := 84) d_Mod_done_83 rfl rfl 2 rfl ?_
        refine aw_iload_n (n := 85) d_Mod_done_84 rfl rfl 1 rfl ?_
        refine pf_Mod_next (n := 88) d_Mod_done_85 rfl kf_Mod_130 ?_
        obtain ⟨σ2, eσ2, hJ⟩ := ax_letE hJ
        refine aw_let eσ2 ?_
        refine aw_iconst (n := 89) (v := 0) d_Mod_done_88 rfl (by decide) ?_
        refine aw_istore (n := 91) d_Mod_done_89 rfl (by decide) rfl ?_
        refine aw_sub [3, 4, 5, 1, 0] rfl ?_
        exact t_Mod_done_91 x A N _ _ _ _ _ hJ
      · rw [if_pos c3] at hJ
        refine aw_aload_n (n := 54) d_Mod_done_53 rfl rfl 1 rfl ?_
        refine gf_Mod_values (n := 57) d_Mod_done_54 rfl kf_Mod_36 ?_
        refine aw_aload_n (n := 58) d_Mod_done_57 rfl rfl 1 rfl ?_
        refine gf_Mod_meaning (n := 61) d_Mod_done_58 rfl kf_Mod_17 ?_
        refine aw_iload_n (n := 62) d_Mod_done_61 rfl rfl 0 rfl ?_
        obtain ⟨h1, hJ⟩ := ax_need hJ
        refine al_35 (n := 63) d_Mod_done_62 rfl h1 ?_
        refine aw_aload_n (n := 64) d_Mod_done_63 rfl rfl 1 rfl ?_
        refine aw_iload_n (n := 65) d_Mod_done_64 rfl rfl 2 rfl ?_
        refine aw_iload_n (n := 66) d_Mod_done_65 rfl rfl 0 rfl ?_
        refine aw_iconst (n := 67) (v := 2) d_Mod_done_66 rfl (by decide) ?_
        refine aw_iadd (n := 68) d_Mod_done_67 rfl ?_
        refine aw_iconst (n := 69) (v := 1) d_Mod_done_68 rfl (by decide) ?_
        obtain ⟨r2, σ3, hc2, hJ⟩ := ax_bindE hJ
        refine aw_callVi (n := 72) (c_Mod_work hc2) 0 rfl rfl Y_Mod_work km_Mod_133 (by decide) (by decide) rfl rfl (Nat.le_of_ble_eq_true rfl) d_Mod_done_69 rfl (fun r9 s9 hp => ?_)
        obtain ⟨rfl, rfl⟩ := hp
        obtain ⟨h2, hJ⟩ := ax_need hJ
        refine as_40 (n := 73) d_Mod_done_72 rfl h2 ?_
        obtain ⟨σ4, eσ4, hJ⟩ := ax_letE hJ
        refine aw_let eσ4 ?_
        refine aw_iload_n (n := 74) d_Mod_done_73 rfl rfl 2 rfl ?_
        refine aw_iconst (n := 75) (v := 1) d_Mod_done_74 rfl (by decide) ?_
        refine aw_iadd (n := 76) d_Mod_done_75 rfl ?_
        exact aw_iret d_Mod_done_76 rfl (ax_ret hJ)
    · rw [if_pos c2] at hJ
      refine aw_aload_n (n := 27) d_Mod_done_26 rfl rfl 1 rfl ?_
      refine gf_Mod_other (n := 30) d_Mod_done_27 rfl kf_Mod_39 ?_
      refine aw_iload_n (n := 31) d_Mod_done_30 rfl rfl 2 rfl ?_
      obtain ⟨h3, hJ⟩ := ax_need hJ
      refine al_41 (n := 32) d_Mod_done_31 rfl h3 ?_
      refine aw_if_lt (n := 35) (t := 44) d_Mod_done_32 rfl (by decide) (fun c4 => ?_) (fun c4 => ?_)
      · rw [if_pos c4] at hJ
        refine aw_iload_n (n := 45) d_Mod_done_44 rfl rfl 2 rfl ?_
        refine aw_iconst (n := 46) (v := 1) d_Mod_done_45 rfl (by decide) ?_
        refine aw_iadd (n := 47) d_Mod_done_46 rfl ?_
        exact aw_iret d_Mod_done_47 rfl (ax_ret hJ)
      · rw [if_neg c4] at hJ
        refine aw_aload_n (n := 36) d_Mod_done_35 rfl rfl 1 rfl ?_
        refine gf_Mod_other (n := 39) d_Mod_done_36 rfl kf_Mod_39 ?_
        refine aw_iload_n (n := 40) d_Mod_done_39 rfl rfl 2 rfl ?_
        obtain ⟨h4, hJ⟩ := ax_need hJ
        refine al_41 (n := 41) d_Mod_done_40 rfl h4 ?_
        refine aw_goto (t := 47) d_Mod_done_41 (by decide) ?_
        exact aw_iret d_Mod_done_47 rfl (ax_ret hJ)
  · rw [if_pos c1] at hJ
    refine aw_aload_n (n := 12) d_Mod_done_11 rfl rfl 1 rfl ?_
    refine gf_Mod_other (n := 15) d_Mod_done_12 rfl kf_Mod_39 ?_
    refine aw_iload_n (n := 16) d_Mod_done_15 rfl rfl 2 rfl ?_
    obtain ⟨h5, hJ⟩ := ax_need hJ
    refine al_41 (n := 17) d_Mod_done_16 rfl h5 ?_
    refine aw_iconst (n := 18) (v := 1) d_Mod_done_17 rfl (by decide) ?_
    refine aw_iadd (n := 19) d_Mod_done_18 rfl ?_
    exact aw_iret d_Mod_done_19 rfl (ax_ret hJ)
abbrev b_Mod_frame : ByteArray := prog_10_method_27_code
def y_Mod_frame : MethodName := ⟨"DotConsoleModel", "frame", "(I)I"⟩
theorem d_Mod_frame_0 : decode b_Mod_frame 0 = .ok (.iload_n 1, 1) := by decide +kernel
theorem d_Mod_frame_1 : decode b_Mod_frame 1 = .ok (.ifCond .lt 16, 3) := by decide +kernel
theorem d_Mod_frame_4 : decode b_Mod_frame 4 = .ok (.iload_n 1, 1) := by decide +kernel
theorem d_Mod_frame_5 : decode b_Mod_frame 5 = .ok (.bipush 63, 2) := by decide +kernel
theorem d_Mod_frame_7 : decode b_Mod_frame 7 = .ok (.if_icmp .gt 10, 3) := by decide +kernel
theorem d_Mod_frame_10 : decode b_Mod_frame 10 = .ok (.aload_n 0, 1) := by decide +kernel
theorem d_Mod_frame_11 : decode b_Mod_frame 11 = .ok (.getfield 113, 3) := by decide +kernel
theorem d_Mod_frame_14 : decode b_Mod_frame 14 = .ok (.ifCond .ne 5, 3) := by decide +kernel
theorem d_Mod_frame_17 : decode b_Mod_frame 17 = .ok (.iconst (-1), 1) := by decide +kernel
theorem d_Mod_frame_18 : decode b_Mod_frame 18 = .ok (.ireturn, 1) := by decide +kernel
theorem d_Mod_frame_19 : decode b_Mod_frame 19 = .ok (.iconst 0, 1) := by decide +kernel
theorem d_Mod_frame_20 : decode b_Mod_frame 20 = .ok (.istore_n 2, 1) := by decide +kernel
theorem d_Mod_frame_21 : decode b_Mod_frame 21 = .ok (.iload_n 2, 1) := by decide +kernel
theorem d_Mod_frame_22 : decode b_Mod_frame 22 = .ok (.bipush 6, 2) := by decide +kernel
theorem d_Mod_frame_24 : decode b_Mod_frame 24 = .ok (.if_icmp .ge 35, 3) := by decide +kernel
theorem d_Mod_frame_27 : decode b_Mod_frame 27 = .ok (.aload_n 0, 1) := by decide +kernel
theorem d_Mod_frame_28 : decode b_Mod_frame 28 = .ok (.getfield 48, 3) := by decide +kernel
theorem d_Mod_frame_31 : decode b_Mod_frame 31 = .ok (.iload_n 2, 1) := by decide +kernel
theorem d_Mod_frame_32 : decode b_Mod_frame 32 = .ok (.iload_n 1, 1) := by decide +kernel
theorem d_Mod_frame_33 : decode b_Mod_frame 33 = .ok (.iload_n 2, 1) := by decide +kernel
theorem d_Mod_frame_34 : decode b_Mod_frame 34 = .ok (.ishr, 1) := by decide +kernel
theorem d_Mod_frame_35 : decode b_Mod_frame 35 = .ok (.iconst 1, 1) := by decide +kernel
theorem d_Mod_frame_36 : decode b_Mod_frame 36 = .ok (.iand, 1) := by decide +kernel
theorem d_Mod_frame_37 : decode b_Mod_frame 37 = .ok (.ifCond .eq 14, 3) := by decide +kernel
theorem d_Mod_frame_40 : decode b_Mod_frame 40 = .ok (.aload_n 0, 1) := by decide +kernel
theorem d_Mod_frame_41 : decode b_Mod_frame 41 = .ok (.getfield 48, 3) := by decide +kernel
theorem d_Mod_frame_44 : decode b_Mod_frame 44 = .ok (.iload_n 2, 1) := by decide +kernel
theorem d_Mod_frame_45 : decode b_Mod_frame 45 = .ok (.iaload, 1) := by decide +kernel
theorem d_Mod_frame_46 : decode b_Mod_frame 46 = .ok (.iconst 1, 1) := by decide +kernel
theorem d_Mod_frame_47 : decode b_Mod_frame 47 = .ok (.iadd, 1) := by decide +kernel
theorem d_Mod_frame_48 : decode b_Mod_frame 48 = .ok (.goto 4, 3) := by decide +kernel
theorem d_Mod_frame_51 : decode b_Mod_frame 51 = .ok (.iconst 0, 1) := by decide +kernel
theorem d_Mod_frame_52 : decode b_Mod_frame 52 = .ok (.iastore, 1) := by decide +kernel
theorem d_Mod_frame_53 : decode b_Mod_frame 53 = .ok (.iinc 2 1, 3) := by decide +kernel
theorem d_Mod_frame_56 : decode b_Mod_frame 56 = .ok (.goto (-35), 3) := by decide +kernel
theorem d_Mod_frame_59 : decode b_Mod_frame 59 = .ok (.aload_n 0, 1) := by decide +kernel
theorem d_Mod_frame_60 : decode b_Mod_frame 60 = .ok (.dup, 1) := by decide +kernel
theorem d_Mod_frame_61 : decode b_Mod_frame 61 = .ok (.getfield 180, 3) := by decide +kernel
theorem d_Mod_frame_64 : decode b_Mod_frame 64 = .ok (.iconst 1, 1) := by decide +kernel
theorem d_Mod_frame_65 : decode b_Mod_frame 65 = .ok (.iadd, 1) := by decide +kernel
theorem d_Mod_frame_66 : decode b_Mod_frame 66 = .ok (.putfield 180, 3) := by decide +kernel
theorem d_Mod_frame_69 : decode b_Mod_frame 69 = .ok (.aload_n 0, 1) := by decide +kernel
theorem d_Mod_frame_70 : decode b_Mod_frame 70 = .ok (.iconst 0, 1) := by decide +kernel
theorem d_Mod_frame_71 : decode b_Mod_frame 71 = .ok (.putfield 183, 3) := by decide +kernel
theorem d_Mod_frame_74 : decode b_Mod_frame 74 = .ok (.iconst 0, 1) := by decide +kernel
theorem d_Mod_frame_75 : decode b_Mod_frame 75 = .ok (.istore_n 2, 1) := by decide +kernel
theorem d_Mod_frame_76 : decode b_Mod_frame 76 = .ok (.iload_n 2, 1) := by decide +kernel
theorem d_Mod_frame_77 : decode b_Mod_frame 77 = .ok (.aload_n 0, 1) := by decide +kernel
theorem d_Mod_frame_78 : decode b_Mod_frame 78 = .ok (.getfield 137, 3) := by decide +kernel
theorem d_Mod_frame_81 : decode b_Mod_frame 81 = .ok (.if_icmp .ge 57, 3) := by decide +kernel
theorem d_Mod_frame_84 : decode b_Mod_frame 84 = .ok (.aload_n 0, 1) := by decide +kernel
theorem d_Mod_frame_85 : decode b_Mod_frame 85 = .ok (.getfield 13, 3) := by decide +kernel
theorem d_Mod_frame_88 : decode b_Mod_frame 88 = .ok (.bipush 48, 2) := by decide +kernel
theorem d_Mod_frame_90 : decode b_Mod_frame 90 = .ok (.iload_n 2, 1) := by decide +kernel
theorem d_Mod_frame_91 : decode b_Mod_frame 91 = .ok (.imul, 1) := by decide +kernel
theorem d_Mod_frame_92 : decode b_Mod_frame 92 = .ok (.iaload, 1) := by decide +kernel
theorem d_Mod_frame_93 : decode b_Mod_frame 93 = .ok (.istore_n 3, 1) := by decide +kernel
theorem d_Mod_frame_94 : decode b_Mod_frame 94 = .ok (.iload_n 3, 1) := by decide +kernel
theorem d_Mod_frame_95 : decode b_Mod_frame 95 = .ok (.bipush 11, 2) := by decide +kernel
theorem d_Mod_frame_97 : decode b_Mod_frame 97 = .ok (.if_icmp .eq 31, 3) := by decide +kernel
theorem d_Mod_frame_100 : decode b_Mod_frame 100 = .ok (.iload_n 3, 1) := by decide +kernel
theorem d_Mod_frame_101 : decode b_Mod_frame 101 = .ok (.bipush 13, 2) := by decide +kernel
theorem d_Mod_frame_103 : decode b_Mod_frame 103 = .ok (.if_icmp .eq 25, 3) := by decide +kernel
theorem d_Mod_frame_106 : decode b_Mod_frame 106 = .ok (.aload_n 0, 1) := by decide +kernel
theorem d_Mod_frame_107 : decode b_Mod_frame 107 = .ok (.getfield 183, 3) := by decide +kernel
theorem d_Mod_frame_110 : decode b_Mod_frame 110 = .ok (.sipush 300, 3) := by decide +kernel
theorem d_Mod_frame_113 : decode b_Mod_frame 113 = .ok (.if_icmp .ne 5, 3) := by decide +kernel
theorem d_Mod_frame_116 : decode b_Mod_frame 116 = .ok (.iconst 1, 1) := by decide +kernel
theorem d_Mod_frame_117 : decode b_Mod_frame 117 = .ok (.ireturn, 1) := by decide +kernel
theorem d_Mod_frame_118 : decode b_Mod_frame 118 = .ok (.aload_n 0, 1) := by decide +kernel
theorem d_Mod_frame_119 : decode b_Mod_frame 119 = .ok (.dup, 1) := by decide +kernel
theorem d_Mod_frame_120 : decode b_Mod_frame 120 = .ok (.getfield 183, 3) := by decide +kernel
theorem d_Mod_frame_123 : decode b_Mod_frame 123 = .ok (.iconst 1, 1) := by decide +kernel
theorem d_Mod_frame_124 : decode b_Mod_frame 124 = .ok (.iadd, 1) := by decide +kernel
theorem d_Mod_frame_125 : decode b_Mod_frame 125 = .ok (.putfield 183, 3) := by decide +kernel
theorem d_Mod_frame_128 : decode b_Mod_frame 128 = .ok (.aload_n 0, 1) := by decide +kernel
theorem d_Mod_frame_129 : decode b_Mod_frame 129 = .ok (.iload_n 2, 1) := by decide +kernel
theorem d_Mod_frame_130 : decode b_Mod_frame 130 = .ok (.iload_n 3, 1) := by decide +kernel
theorem d_Mod_frame_131 : decode b_Mod_frame 131 = .ok (.invokevirtual 186, 3) := by decide +kernel
theorem d_Mod_frame_134 : decode b_Mod_frame 134 = .ok (.istore_n 2, 1) := by decide +kernel
theorem d_Mod_frame_135 : decode b_Mod_frame 135 = .ok (.goto (-59), 3) := by decide +kernel
theorem d_Mod_frame_138 : decode b_Mod_frame 138 = .ok (.iconst 0, 1) := by decide +kernel
theorem d_Mod_frame_139 : decode b_Mod_frame 139 = .ok (.ireturn, 1) := by decide +kernel
def μ_Mod_frame : ax_M := (b_Mod_frame, 4, "DotConsoleModel", (some .int), 7, 168, 0, 0)
theorem Y_Mod_frame : ax_YV μ_Mod_frame y_Mod_frame 1 := ⟨⟨ax_mem (by decide +kernel) rfl, ax_mem (by decide +kernel) rfl, by decide, by decide, by decide +kernel⟩, ax_mem (by decide +kernel) rfl, ax_mem (by decide +kernel) rfl⟩
theorem km_Mod_186 : Cond.methodLink "DotConsoleModel" 186 ⟨"DotConsoleModel", "done", "(II)I"⟩ ∈ ax_T := ax_mem (by decide +kernel) rfl
theorem kf_Mod_183 : Cond.fieldLink "DotConsoleModel" 183 "DotConsoleModel" "steps" "I" ∈ ax_T := ax_mem (by decide +kernel) rfl
theorem kf_Mod_180 : Cond.fieldLink "DotConsoleModel" 180 "DotConsoleModel" "frames" "I" ∈ ax_T := ax_mem (by decide +kernel) rfl
def J_Mod_frame_76 (N : Nat) : Nat → Int32 → St → Option (Int32 × St)
  | 0, _, _ => none
  | n + 1, l2, σ => (if (σ.1 1) ≤ l2 then
  some (0, σ)
  else (if (inB (48 * l2) 1400) = true then ax_let ((σ.2 1 (48 * l2).toNatClampNeg) : Int32) (fun v3 =>
  (if v3 = 11 then
  ax_bind (J_Mod_done N l2 v3 σ) (fun r1 σ5 =>
  J_Mod_frame_76 N n r1 σ5)
  else (if v3 = 13 then
  ax_bind (J_Mod_done N l2 v3 σ) (fun r2 σ6 =>
  J_Mod_frame_76 N n r2 σ6)
  else (if (σ.1 7) = 300 then
  some (1, σ)
  else ax_let (sF σ 7 ((σ.1 7) + 1)) (fun σ7 =>
  ax_bind (J_Mod_done N l2 v3 σ7) (fun r3 σ8 =>
  J_Mod_frame_76 N n r3 σ8)))))) else none))
def J_Mod_frame_21 (N : Nat) : Nat → Int32 → Int32 → St → Option (Int32 × St)
  | 0, _, _, _ => none
  | n + 1, l1, l2, σ => (if 6 ≤ l2 then
  ax_let (sF σ 6 ((σ.1 6) + 1)) (fun σ1 =>
  ax_let (sF σ1 7 0) (fun σ2 =>
  J_Mod_frame_76 N N 0 σ2))
  else (if ((l1 >>> (l2 &&& 31) : Int32) &&& 1) = 0 then
  (if (inB l2 6) = true then ax_let (sA σ 11 l2.toNatClampNeg 0) (fun σ3 =>
  ax_let ((l2 + 1) : Int32) (fun v1 =>
  J_Mod_frame_21 N n l1 v1 σ3)) else none)
  else (if (inB l2 6) = true then (if (inB l2 6) = true then ax_let (sA σ 11 l2.toNatClampNeg ((σ.2 11 l2.toNatClampNeg) + 1)) (fun σ4 =>
  ax_let ((l2 + 1) : Int32) (fun v2 =>
  J_Mod_frame_21 N n l1 v2 σ4)) else none) else none)))
def J_Mod_frame (N : Nat) (a1 : Int32) (σ : St) : Option (Int32 × St) :=
  (if a1 < 0 then
  some ((-1), σ)
  else (if 63 < a1 then
  some ((-1), σ)
  else (if (σ.1 4) = 0 then
  some ((-1), σ)
  else J_Mod_frame_21 N N a1 0 σ)))
set_option maxHeartbeats 1000000 in
theorem t_Mod_frame_76 {N : Nat} {g : ax_G} {r9 : Int32} {s9 : St} (x : ax_X) (A : Nat → Prop) : ∀ (n : Nat) (l2 : Int32) (σ : St), J_Mod_frame_76 N n l2 σ = some (r9, s9) → AW x μ_Mod_frame g A (wM g) (0, 0) (ax_QI x μ_Mod_frame g A (wM g) (ax_eqI r9 s9)) 76 [(0, .ref (g.2.1 32)), (2, .int l2)] [] σ := by
  intro n
  induction n with
  | zero => intro l2 σ hJ; rw [J_Mod_frame_76] at hJ; cases hJ
  | succ n ih =>
    intro l2 σ hJ
    rw [J_Mod_frame_76] at hJ
    refine aw_iload_n (n := 77) d_Mod_frame_76 rfl rfl 1 rfl ?_
    refine aw_aload_n (n := 78) d_Mod_frame_77 rfl rfl 0 rfl ?_
    refine gf_Mod_lines (n := 81) d_Mod_frame_78 rfl kf_Mod_137 ?_
    refine aw_icmp_ge (n := 84) (t := 138) d_Mod_frame_81 rfl (by decide) (fun c6 => ?_) (fun c6 => ?_)
    · rw [if_pos c6] at hJ
      refine aw_iconst (n := 139) (v := 0) d_Mod_frame_138 rfl (by decide) ?_
      exact aw_iret d_Mod_frame_139 rfl (ax_ret hJ)
    · rw [if_neg c6] at hJ
      refine aw_aload_n (n := 85) d_Mod_frame_84 rfl rfl 0 rfl ?_
      refine gf_Mod_kind (n := 88) d_Mod_frame_85 rfl kf_Mod_13 ?_
      refine aw_bipush (n := 90) (v := 48) d_Mod_frame_88 rfl (by decide) ?_
      refine aw_iload_n (n := 91) d_Mod_frame_90 rfl rfl 1 rfl ?_
      refine aw_imul (n := 92) d_Mod_frame_91 rfl ?_
      obtain ⟨h4, hJ⟩ := ax_need hJ
      refine al_34 (n := 93) d_Mod_frame_92 rfl h4 ?_
      obtain ⟨v3, ev3, hJ⟩ := ax_letE hJ
      refine aw_top ev3 ?_
      refine aw_istore_n (n := 94) d_Mod_frame_93 rfl rfl (by decide) rfl ?_
      refine aw_iload_n (n := 95) d_Mod_frame_94 rfl rfl 0 rfl ?_
      refine aw_bipush (n := 97) (v := 11) d_Mod_frame_95 rfl (by decide) ?_
      refine aw_icmp_eq (n := 100) (t := 128) d_Mod_frame_97 rfl (by decide) (fun c7 => ?_) (fun c7 => ?_)
      · rw [if_pos c7] at hJ
        refine aw_aload_n (n := 129) d_Mod_frame_128 rfl rfl 1 rfl ?_
        refine aw_iload_n (n := 130) d_Mod_frame_129 rfl rfl 2 rfl ?_
        refine aw_iload_n (n := 131) d_Mod_frame_130 rfl rfl 0 rfl ?_
        obtain ⟨r1, σ5, hc1, hJ⟩ := ax_bindE hJ
        refine aw_callVi (n := 134) (c_Mod_done hc1) 0 rfl rfl Y_Mod_done km_Mod_186 (by decide) (by decide) rfl rfl (Nat.le_of_ble_eq_true rfl) d_Mod_frame_131 rfl (fun r9 s9 hp => ?_)
        obtain ⟨rfl, rfl⟩ := hp
        refine aw_istore_n (n := 135) d_Mod_frame_134 rfl rfl (by decide) rfl ?_
        refine aw_goto (t := 76) d_Mod_frame_135 (by decide) ?_
        refine aw_sub [2, 0] rfl ?_
        exact ih _ _ hJ
      · rw [if_neg c7] at hJ
        refine aw_iload_n (n := 101) d_Mod_frame_100 rfl rfl 0 rfl ?_
        refine aw_bipush (n := 103) (v := 13) d_Mod_frame_101 rfl (by decide) ?_
        refine aw_icmp_eq (n := 106) (t := 128) d_Mod_frame_103 rfl (by decide) (fun c8 => ?_) (fun c8 => ?_)
        · rw [if_pos c8] at hJ
          refine aw_aload_n (n := 129) d_Mod_frame_128 rfl rfl 1 rfl ?_
          refine aw_iload_n (n := 130) d_Mod_frame_129 rfl rfl 2 rfl ?_
          refine aw_iload_n (n := 131) d_Mod_frame_130 rfl rfl 0 rfl ?_
          obtain ⟨r2, σ6, hc2, hJ⟩ := ax_bindE hJ
          refine aw_callVi (n := 134) (c_Mod_done hc2) 0 rfl rfl Y_Mod_done km_Mod_186 (by decide) (by decide) rfl rfl (Nat.le_of_ble_eq_true rfl) d_Mod_frame_131 rfl (fun r9 s9 hp => ?_)
          obtain ⟨rfl, rfl⟩ := hp
          refine aw_istore_n (n := 135) d_Mod_frame_134 rfl rfl (by decide) rfl ?_
          refine aw_goto (t := 76) d_Mod_frame_135 (by decide) ?_
          refine aw_sub [2, 0] rfl ?_
          exact ih _ _ hJ
        · rw [if_neg c8] at hJ
          refine aw_aload_n (n := 107) d_Mod_frame_106 rfl rfl 1 rfl ?_
          refine gf_Mod_steps (n := 110) d_Mod_frame_107 rfl kf_Mod_183 ?_
          refine aw_sipush (n := 113) (v := 300) d_Mod_frame_110 rfl (by decide) ?_
          refine aw_icmp_ne (n := 116) (t := 118) d_Mod_frame_113 rfl (by decide) (fun c9 => ?_) (fun c9 => ?_)
          · rw [if_neg c9] at hJ
            refine aw_aload_n (n := 119) d_Mod_frame_118 rfl rfl 1 rfl ?_
            refine aw_dup (n := 120) d_Mod_frame_119 rfl rfl ?_
            refine gf_Mod_steps (n := 123) d_Mod_frame_120 rfl kf_Mod_183 ?_
            refine aw_iconst (n := 124) (v := 1) d_Mod_frame_123 rfl (by decide) ?_
            refine aw_iadd (n := 125) d_Mod_frame_124 rfl ?_
            refine pf_Mod_steps (n := 128) d_Mod_frame_125 rfl kf_Mod_183 ?_
            obtain ⟨σ7, eσ7, hJ⟩ := ax_letE hJ
            refine aw_let eσ7 ?_
            refine aw_aload_n (n := 129) d_Mod_frame_128 rfl rfl 1 rfl ?_
            refine aw_iload_n (n := 130) d_Mod_frame_129 rfl rfl 2 rfl ?_
            refine aw_iload_n (n := 131) d_Mod_frame_130 rfl rfl 0 rfl ?_
            obtain ⟨r3, σ8, hc3, hJ⟩ := ax_bindE hJ
            refine aw_callVi (n := 134) (c_Mod_done hc3) 0 rfl rfl Y_Mod_done km_Mod_186 (by decide) (by decide) rfl rfl (Nat.le_of_ble_eq_true rfl) d_Mod_frame_131 rfl (fun r9 s9 hp => ?_)
            obtain ⟨rfl, rfl⟩ := hp
            refine aw_istore_n (n := 135) d_Mod_frame_134 rfl rfl (by decide) rfl ?_
            refine aw_goto (t := 76) d_Mod_frame_135 (by decide) ?_
            refine aw_sub [2, 0] rfl ?_
            exact ih _ _ hJ
          · rw [if_pos c9] at hJ
            refine aw_iconst (n := 117) (v := 1) d_Mod_frame_116 rfl (by decide) ?_
            exact aw_iret d_Mod_frame_117 rfl (ax_ret hJ)
set_option maxHeartbeats 1000000 in
theorem t_Mod_frame_21 {N : Nat} {g : ax_G} {r9 : Int32} {s9 : St} (x : ax_X) (A : Nat → Prop) : ∀ (n : Nat) (l1 : Int32) (l2 : Int32) (σ : St), J_Mod_frame_21 N n l1 l2 σ = some (r9, s9) → AW x μ_Mod_frame g A (wM g) (0, 0) (ax_QI x μ_Mod_frame g A (wM g) (ax_eqI r9 s9)) 21 [(0, .ref (g.2.1 32)), (1, .int l1), (2, .int l2)] [] σ := by
  intro n
  induction n with
  | zero => intro l1 l2 σ hJ; rw [J_Mod_frame_21] at hJ; cases hJ
  | succ n ih =>
    intro l1 l2 σ hJ
    rw [J_Mod_frame_21] at hJ
    refine aw_iload_n (n := 22) d_Mod_frame_21 rfl rfl 2 rfl ?_
    refine aw_bipush (n := 24) (v := 6) d_Mod_frame_22 rfl (by decide) ?_
    refine aw_icmp_ge (n := 27) (t := 59) d_Mod_frame_24 rfl (by decide) (fun c4 => ?_) (fun c4 => ?_)
    · rw [if_pos c4] at hJ
      refine aw_aload_n (n := 60) d_Mod_frame_59 rfl rfl 0 rfl ?_
      refine aw_dup (n := 61) d_Mod_frame_60 rfl rfl ?_
      refine gf_Mod_frames (n := 64) d_Mod_frame_61 rfl kf_Mod_180 ?_
      refine aw_iconst (n := 65) (v := 1) d_Mod_frame_64 rfl (by decide) ?_
      refine aw_iadd (n := 66) d_Mod_frame_65 rfl ?_
      refine pf_Mod_frames (n := 69) d_Mod_frame_66 rfl kf_Mod_180 ?_
      obtain ⟨σ1, eσ1, hJ⟩ := ax_letE hJ
      refine aw_let eσ1 ?_
      refine aw_aload_n (n := 70) d_Mod_frame_69 rfl rfl 0 rfl ?_
      refine aw_iconst (n := 71) (v := 0) d_Mod_frame_70 rfl (by decide) ?_
      refine pf_Mod_steps (n := 74) d_Mod_frame_71 rfl kf_Mod_183 ?_
      obtain ⟨σ2, eσ2, hJ⟩ := ax_letE hJ
      refine aw_let eσ2 ?_
      refine aw_iconst (n := 75) (v := 0) d_Mod_frame_74 rfl (by decide) ?_
      refine aw_istore_n (n := 76) d_Mod_frame_75 rfl rfl (by decide) rfl ?_
      refine aw_sub [1, 0] rfl ?_
      exact t_Mod_frame_76 x A N _ _ hJ
    · rw [if_neg c4] at hJ
      refine aw_aload_n (n := 28) d_Mod_frame_27 rfl rfl 0 rfl ?_
      refine gf_Mod_held (n := 31) d_Mod_frame_28 rfl kf_Mod_48 ?_
      refine aw_iload_n (n := 32) d_Mod_frame_31 rfl rfl 2 rfl ?_
      refine aw_iload_n (n := 33) d_Mod_frame_32 rfl rfl 1 rfl ?_
      refine aw_iload_n (n := 34) d_Mod_frame_33 rfl rfl 2 rfl ?_
      refine aw_ishr (n := 35) d_Mod_frame_34 rfl ?_
      refine aw_iconst (n := 36) (v := 1) d_Mod_frame_35 rfl (by decide) ?_
      refine aw_iand (n := 37) d_Mod_frame_36 rfl ?_
      refine aw_if_eq (n := 40) (t := 51) d_Mod_frame_37 rfl (by decide) (fun c5 => ?_) (fun c5 => ?_)
      · rw [if_pos c5] at hJ
        refine aw_iconst (n := 52) (v := 0) d_Mod_frame_51 rfl (by decide) ?_
        obtain ⟨h1, hJ⟩ := ax_need hJ
        refine as_44 (n := 53) d_Mod_frame_52 rfl h1 ?_
        obtain ⟨σ3, eσ3, hJ⟩ := ax_letE hJ
        refine aw_let eσ3 ?_
        obtain ⟨v1, ev1, hJ⟩ := ax_letE hJ
        refine aw_iinc (n := 56) (j := 2) (v := v1) d_Mod_frame_53 rfl rfl (ev1) (by decide) rfl ?_
        refine aw_goto (t := 21) d_Mod_frame_56 (by decide) ?_
        refine aw_sub [1, 2, 0] rfl ?_
        exact ih _ _ _ hJ
      · rw [if_neg c5] at hJ
        refine aw_aload_n (n := 41) d_Mod_frame_40 rfl rfl 0 rfl ?_
        refine gf_Mod_held (n := 44) d_Mod_frame_41 rfl kf_Mod_48 ?_
        refine aw_iload_n (n := 45) d_Mod_frame_44 rfl rfl 2 rfl ?_
        obtain ⟨h2, hJ⟩ := ax_need hJ
        refine al_44 (n := 46) d_Mod_frame_45 rfl h2 ?_
        refine aw_iconst (n := 47) (v := 1) d_Mod_frame_46 rfl (by decide) ?_
        refine aw_iadd (n := 48) d_Mod_frame_47 rfl ?_
        refine aw_goto (t := 52) d_Mod_frame_48 (by decide) ?_
        obtain ⟨h3, hJ⟩ := ax_need hJ
        refine as_44 (n := 53) d_Mod_frame_52 rfl h3 ?_
        obtain ⟨σ4, eσ4, hJ⟩ := ax_letE hJ
        refine aw_let eσ4 ?_
        obtain ⟨v2, ev2, hJ⟩ := ax_letE hJ
        refine aw_iinc (n := 56) (j := 2) (v := v2) d_Mod_frame_53 rfl rfl (ev2) (by decide) rfl ?_
        refine aw_goto (t := 21) d_Mod_frame_56 (by decide) ?_
        refine aw_sub [1, 2, 0] rfl ?_
        exact ih _ _ _ hJ
set_option maxHeartbeats 1000000 in
theorem c_Mod_frame {N : Nat} {g : ax_G} {a1 : Int32} {σ : St} {r9 : Int32} {s9 : St} (hJ : J_Mod_frame N a1 σ = some (r9, s9)) : ax_CI μ_Mod_frame g y_Mod_frame (wM g) [.ref (g.2.1 32), .int a1] σ (ax_eqI r9 s9) := by
  refine ax_CI.of (plainFor_of_name rfl) rfl (Nat.le_of_ble_eq_true rfl) (fun x A _ => ?_)
  show AW x μ_Mod_frame g A (wM g) (0, 0) (ax_QI x μ_Mod_frame g A (wM g) (ax_eqI r9 s9)) 0 [(0, .ref (g.2.1 32)), (1, .int a1)] [] σ
  rw [J_Mod_frame] at hJ
  refine aw_iload_n (n := 1) d_Mod_frame_0 rfl rfl 1 rfl ?_
  refine aw_if_lt (n := 4) (t := 17) d_Mod_frame_1 rfl (by decide) (fun c1 => ?_) (fun c1 => ?_)
  · rw [if_pos c1] at hJ
    refine aw_iconst (n := 18) (v := -1) d_Mod_frame_17 rfl (by decide) ?_
    exact aw_iret d_Mod_frame_18 rfl (ax_ret hJ)
  · rw [if_neg c1] at hJ
    refine aw_iload_n (n := 5) d_Mod_frame_4 rfl rfl 1 rfl ?_
    refine aw_bipush (n := 7) (v := 63) d_Mod_frame_5 rfl (by decide) ?_
    refine aw_icmp_gt (n := 10) (t := 17) d_Mod_frame_7 rfl (by decide) (fun c2 => ?_) (fun c2 => ?_)
    · rw [if_pos c2] at hJ
      refine aw_iconst (n := 18) (v := -1) d_Mod_frame_17 rfl (by decide) ?_
      exact aw_iret d_Mod_frame_18 rfl (ax_ret hJ)
    · rw [if_neg c2] at hJ
      refine aw_aload_n (n := 11) d_Mod_frame_10 rfl rfl 0 rfl ?_
      refine gf_Mod_sealed (n := 14) d_Mod_frame_11 rfl kf_Mod_113 ?_
      refine aw_if_ne (n := 17) (t := 19) d_Mod_frame_14 rfl (by decide) (fun c3 => ?_) (fun c3 => ?_)
      · rw [if_neg c3] at hJ
        refine aw_iconst (n := 20) (v := 0) d_Mod_frame_19 rfl (by decide) ?_
        refine aw_istore_n (n := 21) d_Mod_frame_20 rfl rfl (by decide) rfl ?_
        refine aw_sub [1, 2, 0] rfl ?_
        exact t_Mod_frame_21 x A N _ _ _ hJ
      · rw [if_pos c3] at hJ
        refine aw_iconst (n := 18) (v := -1) d_Mod_frame_17 rfl (by decide) ?_
        exact aw_iret d_Mod_frame_18 rfl (ax_ret hJ)
