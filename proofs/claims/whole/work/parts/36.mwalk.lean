/-! WALKED: Mod_add, Mod_place, Mod_seal. Printed by wip/whole/build.py. -/
abbrev b_Mod_add : ByteArray := prog_10_method_15_code
def y_Mod_add : MethodName := ⟨"DotConsoleModel", "add", "()I"⟩
theorem d_Mod_add_0 : decode b_Mod_add 0 = .ok (.aload_n 0, 1) := by decide +kernel
theorem d_Mod_add_1 : decode b_Mod_add 1 = .ok (.iconst (-1), 1) := by decide +kernel
theorem d_Mod_add_2 : decode b_Mod_add 2 = .ok (.putfield 29, 3) := by decide +kernel
theorem d_Mod_add_5 : decode b_Mod_add 5 = .ok (.aload_n 0, 1) := by decide +kernel
theorem d_Mod_add_6 : decode b_Mod_add 6 = .ok (.getfield 66, 3) := by decide +kernel
theorem d_Mod_add_9 : decode b_Mod_add 9 = .ok (.istore_n 1, 1) := by decide +kernel
theorem d_Mod_add_10 : decode b_Mod_add 10 = .ok (.aload_n 0, 1) := by decide +kernel
theorem d_Mod_add_11 : decode b_Mod_add 11 = .ok (.getfield 113, 3) := by decide +kernel
theorem d_Mod_add_14 : decode b_Mod_add 14 = .ok (.ifCond .eq 10, 3) := by decide +kernel
theorem d_Mod_add_17 : decode b_Mod_add 17 = .ok (.aload_n 0, 1) := by decide +kernel
theorem d_Mod_add_18 : decode b_Mod_add 18 = .ok (.iconst 0, 1) := by decide +kernel
theorem d_Mod_add_19 : decode b_Mod_add 19 = .ok (.putfield 66, 3) := by decide +kernel
theorem d_Mod_add_22 : decode b_Mod_add 22 = .ok (.iconst (-1), 1) := by decide +kernel
theorem d_Mod_add_23 : decode b_Mod_add 23 = .ok (.ireturn, 1) := by decide +kernel
theorem d_Mod_add_24 : decode b_Mod_add 24 = .ok (.aload_n 0, 1) := by decide +kernel
theorem d_Mod_add_25 : decode b_Mod_add 25 = .ok (.invokevirtual 117, 3) := by decide +kernel
theorem d_Mod_add_28 : decode b_Mod_add 28 = .ok (.aload_n 0, 1) := by decide +kernel
theorem d_Mod_add_29 : decode b_Mod_add 29 = .ok (.invokevirtual 120, 3) := by decide +kernel
theorem d_Mod_add_32 : decode b_Mod_add 32 = .ok (.istore_n 2, 1) := by decide +kernel
theorem d_Mod_add_33 : decode b_Mod_add 33 = .ok (.iload_n 2, 1) := by decide +kernel
theorem d_Mod_add_34 : decode b_Mod_add 34 = .ok (.aload_n 0, 1) := by decide +kernel
theorem d_Mod_add_35 : decode b_Mod_add 35 = .ok (.getfield 23, 3) := by decide +kernel
theorem d_Mod_add_38 : decode b_Mod_add 38 = .ok (.bipush 28, 2) := by decide +kernel
theorem d_Mod_add_40 : decode b_Mod_add 40 = .ok (.iaload, 1) := by decide +kernel
theorem d_Mod_add_41 : decode b_Mod_add 41 = .ok (.if_icmp .ge 21, 3) := by decide +kernel
theorem d_Mod_add_44 : decode b_Mod_add 44 = .ok (.aload_n 0, 1) := by decide +kernel
theorem d_Mod_add_45 : decode b_Mod_add 45 = .ok (.iload_n 2, 1) := by decide +kernel
theorem d_Mod_add_46 : decode b_Mod_add 46 = .ok (.ifCond .ge 7, 3) := by decide +kernel
theorem d_Mod_add_49 : decode b_Mod_add 49 = .ok (.iload_n 1, 1) := by decide +kernel
theorem d_Mod_add_50 : decode b_Mod_add 50 = .ok (.goto 9, 3) := by decide +kernel
theorem d_Mod_add_53 : decode b_Mod_add 53 = .ok (.aload_n 0, 1) := by decide +kernel
theorem d_Mod_add_54 : decode b_Mod_add 54 = .ok (.getfield 20, 3) := by decide +kernel
theorem d_Mod_add_57 : decode b_Mod_add 57 = .ok (.iload_n 2, 1) := by decide +kernel
theorem d_Mod_add_58 : decode b_Mod_add 58 = .ok (.iaload, 1) := by decide +kernel
theorem d_Mod_add_59 : decode b_Mod_add 59 = .ok (.putfield 29, 3) := by decide +kernel
theorem d_Mod_add_62 : decode b_Mod_add 62 = .ok (.aload_n 0, 1) := by decide +kernel
theorem d_Mod_add_63 : decode b_Mod_add 63 = .ok (.iconst 0, 1) := by decide +kernel
theorem d_Mod_add_64 : decode b_Mod_add 64 = .ok (.putfield 66, 3) := by decide +kernel
theorem d_Mod_add_67 : decode b_Mod_add 67 = .ok (.iload_n 2, 1) := by decide +kernel
theorem d_Mod_add_68 : decode b_Mod_add 68 = .ok (.aload_n 0, 1) := by decide +kernel
theorem d_Mod_add_69 : decode b_Mod_add 69 = .ok (.getfield 23, 3) := by decide +kernel
theorem d_Mod_add_72 : decode b_Mod_add 72 = .ok (.bipush 28, 2) := by decide +kernel
theorem d_Mod_add_74 : decode b_Mod_add 74 = .ok (.iaload, 1) := by decide +kernel
theorem d_Mod_add_75 : decode b_Mod_add 75 = .ok (.if_icmp .ge 6, 3) := by decide +kernel
theorem d_Mod_add_78 : decode b_Mod_add 78 = .ok (.bipush (-3), 2) := by decide +kernel
theorem d_Mod_add_80 : decode b_Mod_add 80 = .ok (.ireturn, 1) := by decide +kernel
theorem d_Mod_add_81 : decode b_Mod_add 81 = .ok (.aload_n 0, 1) := by decide +kernel
theorem d_Mod_add_82 : decode b_Mod_add 82 = .ok (.iconst 0, 1) := by decide +kernel
theorem d_Mod_add_83 : decode b_Mod_add 83 = .ok (.putfield 124, 3) := by decide +kernel
theorem d_Mod_add_86 : decode b_Mod_add 86 = .ok (.aload_n 0, 1) := by decide +kernel
theorem d_Mod_add_87 : decode b_Mod_add 87 = .ok (.iconst 0, 1) := by decide +kernel
theorem d_Mod_add_88 : decode b_Mod_add 88 = .ok (.putfield 127, 3) := by decide +kernel
theorem d_Mod_add_91 : decode b_Mod_add 91 = .ok (.aload_n 0, 1) := by decide +kernel
theorem d_Mod_add_92 : decode b_Mod_add 92 = .ok (.getfield 13, 3) := by decide +kernel
theorem d_Mod_add_95 : decode b_Mod_add 95 = .ok (.sipush 1344, 3) := by decide +kernel
theorem d_Mod_add_98 : decode b_Mod_add 98 = .ok (.iaload, 1) := by decide +kernel
theorem d_Mod_add_99 : decode b_Mod_add 99 = .ok (.iconst 2, 1) := by decide +kernel
theorem d_Mod_add_100 : decode b_Mod_add 100 = .ok (.if_icmp .ne 7, 3) := by decide +kernel
theorem d_Mod_add_103 : decode b_Mod_add 103 = .ok (.iconst 2, 1) := by decide +kernel
theorem d_Mod_add_104 : decode b_Mod_add 104 = .ok (.goto 4, 3) := by decide +kernel
theorem d_Mod_add_107 : decode b_Mod_add 107 = .ok (.iconst 1, 1) := by decide +kernel
theorem d_Mod_add_108 : decode b_Mod_add 108 = .ok (.istore_n 3, 1) := by decide +kernel
theorem d_Mod_add_109 : decode b_Mod_add 109 = .ok (.aload_n 0, 1) := by decide +kernel
theorem d_Mod_add_110 : decode b_Mod_add 110 = .ok (.sipush 1344, 3) := by decide +kernel
theorem d_Mod_add_113 : decode b_Mod_add 113 = .ok (.iload_n 3, 1) := by decide +kernel
theorem d_Mod_add_114 : decode b_Mod_add 114 = .ok (.iadd, 1) := by decide +kernel
theorem d_Mod_add_115 : decode b_Mod_add 115 = .ok (.iconst 1, 1) := by decide +kernel
theorem d_Mod_add_116 : decode b_Mod_add 116 = .ok (.isub, 1) := by decide +kernel
theorem d_Mod_add_117 : decode b_Mod_add 117 = .ok (.putfield 130, 3) := by decide +kernel
theorem d_Mod_add_120 : decode b_Mod_add 120 = .ok (.aload_n 0, 1) := by decide +kernel
theorem d_Mod_add_121 : decode b_Mod_add 121 = .ok (.getfield 130, 3) := by decide +kernel
theorem d_Mod_add_124 : decode b_Mod_add 124 = .ok (.sipush 1344, 3) := by decide +kernel
theorem d_Mod_add_127 : decode b_Mod_add 127 = .ok (.aload_n 0, 1) := by decide +kernel
theorem d_Mod_add_128 : decode b_Mod_add 128 = .ok (.getfield 23, 3) := by decide +kernel
theorem d_Mod_add_131 : decode b_Mod_add 131 = .ok (.bipush 28, 2) := by decide +kernel
theorem d_Mod_add_133 : decode b_Mod_add 133 = .ok (.iaload, 1) := by decide +kernel
theorem d_Mod_add_134 : decode b_Mod_add 134 = .ok (.iadd, 1) := by decide +kernel
theorem d_Mod_add_135 : decode b_Mod_add 135 = .ok (.iload_n 3, 1) := by decide +kernel
theorem d_Mod_add_136 : decode b_Mod_add 136 = .ok (.iconst 1, 1) := by decide +kernel
theorem d_Mod_add_137 : decode b_Mod_add 137 = .ok (.if_icmp .ne 21, 3) := by decide +kernel
theorem d_Mod_add_140 : decode b_Mod_add 140 = .ok (.aload_n 0, 1) := by decide +kernel
theorem d_Mod_add_141 : decode b_Mod_add 141 = .ok (.getfield 13, 3) := by decide +kernel
theorem d_Mod_add_144 : decode b_Mod_add 144 = .ok (.sipush 1344, 3) := by decide +kernel
theorem d_Mod_add_147 : decode b_Mod_add 147 = .ok (.iaload, 1) := by decide +kernel
theorem d_Mod_add_148 : decode b_Mod_add 148 = .ok (.invokestatic 103, 3) := by decide +kernel
theorem d_Mod_add_151 : decode b_Mod_add 151 = .ok (.ifCond .ne 7, 3) := by decide +kernel
theorem d_Mod_add_154 : decode b_Mod_add 154 = .ok (.iconst 1, 1) := by decide +kernel
theorem d_Mod_add_155 : decode b_Mod_add 155 = .ok (.goto 4, 3) := by decide +kernel
theorem d_Mod_add_158 : decode b_Mod_add 158 = .ok (.iconst 0, 1) := by decide +kernel
theorem d_Mod_add_159 : decode b_Mod_add 159 = .ok (.isub, 1) := by decide +kernel
theorem d_Mod_add_160 : decode b_Mod_add 160 = .ok (.if_icmp .ge 20, 3) := by decide +kernel
theorem d_Mod_add_163 : decode b_Mod_add 163 = .ok (.aload_n 0, 1) := by decide +kernel
theorem d_Mod_add_164 : decode b_Mod_add 164 = .ok (.bipush 28, 2) := by decide +kernel
theorem d_Mod_add_166 : decode b_Mod_add 166 = .ok (.aload_n 0, 1) := by decide +kernel
theorem d_Mod_add_167 : decode b_Mod_add 167 = .ok (.getfield 130, 3) := by decide +kernel
theorem d_Mod_add_170 : decode b_Mod_add 170 = .ok (.iconst 1, 1) := by decide +kernel
theorem d_Mod_add_171 : decode b_Mod_add 171 = .ok (.iadd, 1) := by decide +kernel
theorem d_Mod_add_172 : decode b_Mod_add 172 = .ok (.iconst 0, 1) := by decide +kernel
theorem d_Mod_add_173 : decode b_Mod_add 173 = .ok (.invokevirtual 133, 3) := by decide +kernel
theorem d_Mod_add_176 : decode b_Mod_add 176 = .ok (.pop, 1) := by decide +kernel
theorem d_Mod_add_177 : decode b_Mod_add 177 = .ok (.goto (-57), 3) := by decide +kernel
theorem d_Mod_add_180 : decode b_Mod_add 180 = .ok (.aload_n 0, 1) := by decide +kernel
theorem d_Mod_add_181 : decode b_Mod_add 181 = .ok (.getfield 124, 3) := by decide +kernel
theorem d_Mod_add_184 : decode b_Mod_add 184 = .ok (.bipush 16, 2) := by decide +kernel
theorem d_Mod_add_186 : decode b_Mod_add 186 = .ok (.if_icmp .gt 30, 3) := by decide +kernel
theorem d_Mod_add_189 : decode b_Mod_add 189 = .ok (.aload_n 0, 1) := by decide +kernel
theorem d_Mod_add_190 : decode b_Mod_add 190 = .ok (.getfield 127, 3) := by decide +kernel
theorem d_Mod_add_193 : decode b_Mod_add 193 = .ok (.bipush 6, 2) := by decide +kernel
theorem d_Mod_add_195 : decode b_Mod_add 195 = .ok (.if_icmp .gt 21, 3) := by decide +kernel
theorem d_Mod_add_198 : decode b_Mod_add 198 = .ok (.aload_n 0, 1) := by decide +kernel
theorem d_Mod_add_199 : decode b_Mod_add 199 = .ok (.getfield 137, 3) := by decide +kernel
theorem d_Mod_add_202 : decode b_Mod_add 202 = .ok (.bipush 28, 2) := by decide +kernel
theorem d_Mod_add_204 : decode b_Mod_add 204 = .ok (.if_icmp .eq 12, 3) := by decide +kernel
theorem d_Mod_add_207 : decode b_Mod_add 207 = .ok (.aload_n 0, 1) := by decide +kernel
theorem d_Mod_add_208 : decode b_Mod_add 208 = .ok (.getfield 94, 3) := by decide +kernel
theorem d_Mod_add_211 : decode b_Mod_add 211 = .ok (.bipush 12, 2) := by decide +kernel
theorem d_Mod_add_213 : decode b_Mod_add 213 = .ok (.if_icmp .le 6, 3) := by decide +kernel
theorem d_Mod_add_216 : decode b_Mod_add 216 = .ok (.bipush (-2), 2) := by decide +kernel
theorem d_Mod_add_218 : decode b_Mod_add 218 = .ok (.ireturn, 1) := by decide +kernel
theorem d_Mod_add_219 : decode b_Mod_add 219 = .ok (.iconst 0, 1) := by decide +kernel
theorem d_Mod_add_220 : decode b_Mod_add 220 = .ok (.istore 4, 2) := by decide +kernel
theorem d_Mod_add_222 : decode b_Mod_add 222 = .ok (.iload 4, 2) := by decide +kernel
theorem d_Mod_add_224 : decode b_Mod_add 224 = .ok (.aload_n 0, 1) := by decide +kernel
theorem d_Mod_add_225 : decode b_Mod_add 225 = .ok (.getfield 23, 3) := by decide +kernel
theorem d_Mod_add_228 : decode b_Mod_add 228 = .ok (.bipush 28, 2) := by decide +kernel
theorem d_Mod_add_230 : decode b_Mod_add 230 = .ok (.iaload, 1) := by decide +kernel
theorem d_Mod_add_231 : decode b_Mod_add 231 = .ok (.if_icmp .ge 61, 3) := by decide +kernel
theorem d_Mod_add_234 : decode b_Mod_add 234 = .ok (.aload_n 0, 1) := by decide +kernel
theorem d_Mod_add_235 : decode b_Mod_add 235 = .ok (.getfield 13, 3) := by decide +kernel
theorem d_Mod_add_238 : decode b_Mod_add 238 = .ok (.bipush 48, 2) := by decide +kernel
theorem d_Mod_add_240 : decode b_Mod_add 240 = .ok (.aload_n 0, 1) := by decide +kernel
theorem d_Mod_add_241 : decode b_Mod_add 241 = .ok (.getfield 137, 3) := by decide +kernel
theorem d_Mod_add_244 : decode b_Mod_add 244 = .ok (.imul, 1) := by decide +kernel
theorem d_Mod_add_245 : decode b_Mod_add 245 = .ok (.iload 4, 2) := by decide +kernel
theorem d_Mod_add_247 : decode b_Mod_add 247 = .ok (.iadd, 1) := by decide +kernel
theorem d_Mod_add_248 : decode b_Mod_add 248 = .ok (.aload_n 0, 1) := by decide +kernel
theorem d_Mod_add_249 : decode b_Mod_add 249 = .ok (.getfield 13, 3) := by decide +kernel
theorem d_Mod_add_252 : decode b_Mod_add 252 = .ok (.sipush 1344, 3) := by decide +kernel
theorem d_Mod_add_255 : decode b_Mod_add 255 = .ok (.iload 4, 2) := by decide +kernel
theorem d_Mod_add_257 : decode b_Mod_add 257 = .ok (.iadd, 1) := by decide +kernel
theorem d_Mod_add_258 : decode b_Mod_add 258 = .ok (.iaload, 1) := by decide +kernel
theorem d_Mod_add_259 : decode b_Mod_add 259 = .ok (.iastore, 1) := by decide +kernel
theorem d_Mod_add_260 : decode b_Mod_add 260 = .ok (.aload_n 0, 1) := by decide +kernel
theorem d_Mod_add_261 : decode b_Mod_add 261 = .ok (.getfield 17, 3) := by decide +kernel
theorem d_Mod_add_264 : decode b_Mod_add 264 = .ok (.bipush 48, 2) := by decide +kernel
theorem d_Mod_add_266 : decode b_Mod_add 266 = .ok (.aload_n 0, 1) := by decide +kernel
theorem d_Mod_add_267 : decode b_Mod_add 267 = .ok (.getfield 137, 3) := by decide +kernel
theorem d_Mod_add_270 : decode b_Mod_add 270 = .ok (.imul, 1) := by decide +kernel
theorem d_Mod_add_271 : decode b_Mod_add 271 = .ok (.iload 4, 2) := by decide +kernel
theorem d_Mod_add_273 : decode b_Mod_add 273 = .ok (.iadd, 1) := by decide +kernel
theorem d_Mod_add_274 : decode b_Mod_add 274 = .ok (.aload_n 0, 1) := by decide +kernel
theorem d_Mod_add_275 : decode b_Mod_add 275 = .ok (.getfield 17, 3) := by decide +kernel
theorem d_Mod_add_278 : decode b_Mod_add 278 = .ok (.sipush 1344, 3) := by decide +kernel
theorem d_Mod_add_281 : decode b_Mod_add 281 = .ok (.iload 4, 2) := by decide +kernel
theorem d_Mod_add_283 : decode b_Mod_add 283 = .ok (.iadd, 1) := by decide +kernel
theorem d_Mod_add_284 : decode b_Mod_add 284 = .ok (.iaload, 1) := by decide +kernel
theorem d_Mod_add_285 : decode b_Mod_add 285 = .ok (.iastore, 1) := by decide +kernel
theorem d_Mod_add_286 : decode b_Mod_add 286 = .ok (.iinc 4 1, 3) := by decide +kernel
theorem d_Mod_add_289 : decode b_Mod_add 289 = .ok (.goto (-67), 3) := by decide +kernel
theorem d_Mod_add_292 : decode b_Mod_add 292 = .ok (.aload_n 0, 1) := by decide +kernel
theorem d_Mod_add_293 : decode b_Mod_add 293 = .ok (.getfield 23, 3) := by decide +kernel
theorem d_Mod_add_296 : decode b_Mod_add 296 = .ok (.aload_n 0, 1) := by decide +kernel
theorem d_Mod_add_297 : decode b_Mod_add 297 = .ok (.getfield 137, 3) := by decide +kernel
theorem d_Mod_add_300 : decode b_Mod_add 300 = .ok (.aload_n 0, 1) := by decide +kernel
theorem d_Mod_add_301 : decode b_Mod_add 301 = .ok (.getfield 23, 3) := by decide +kernel
theorem d_Mod_add_304 : decode b_Mod_add 304 = .ok (.bipush 28, 2) := by decide +kernel
theorem d_Mod_add_306 : decode b_Mod_add 306 = .ok (.iaload, 1) := by decide +kernel
theorem d_Mod_add_307 : decode b_Mod_add 307 = .ok (.iastore, 1) := by decide +kernel
theorem d_Mod_add_308 : decode b_Mod_add 308 = .ok (.aload_n 0, 1) := by decide +kernel
theorem d_Mod_add_309 : decode b_Mod_add 309 = .ok (.getfield 26, 3) := by decide +kernel
theorem d_Mod_add_312 : decode b_Mod_add 312 = .ok (.aload_n 0, 1) := by decide +kernel
theorem d_Mod_add_313 : decode b_Mod_add 313 = .ok (.getfield 137, 3) := by decide +kernel
theorem d_Mod_add_316 : decode b_Mod_add 316 = .ok (.aload_n 0, 1) := by decide +kernel
theorem d_Mod_add_317 : decode b_Mod_add 317 = .ok (.getfield 124, 3) := by decide +kernel
theorem d_Mod_add_320 : decode b_Mod_add 320 = .ok (.iastore, 1) := by decide +kernel
theorem d_Mod_add_321 : decode b_Mod_add 321 = .ok (.aload_n 0, 1) := by decide +kernel
theorem d_Mod_add_322 : decode b_Mod_add 322 = .ok (.aload_n 0, 1) := by decide +kernel
theorem d_Mod_add_323 : decode b_Mod_add 323 = .ok (.getfield 94, 3) := by decide +kernel
theorem d_Mod_add_326 : decode b_Mod_add 326 = .ok (.putfield 69, 3) := by decide +kernel
theorem d_Mod_add_329 : decode b_Mod_add 329 = .ok (.aload_n 0, 1) := by decide +kernel
theorem d_Mod_add_330 : decode b_Mod_add 330 = .ok (.dup, 1) := by decide +kernel
theorem d_Mod_add_331 : decode b_Mod_add 331 = .ok (.getfield 137, 3) := by decide +kernel
theorem d_Mod_add_334 : decode b_Mod_add 334 = .ok (.iconst 1, 1) := by decide +kernel
theorem d_Mod_add_335 : decode b_Mod_add 335 = .ok (.iadd, 1) := by decide +kernel
theorem d_Mod_add_336 : decode b_Mod_add 336 = .ok (.putfield 137, 3) := by decide +kernel
theorem d_Mod_add_339 : decode b_Mod_add 339 = .ok (.aload_n 0, 1) := by decide +kernel
theorem d_Mod_add_340 : decode b_Mod_add 340 = .ok (.getfield 137, 3) := by decide +kernel
theorem d_Mod_add_343 : decode b_Mod_add 343 = .ok (.ireturn, 1) := by decide +kernel
def μ_Mod_add : ax_M := (b_Mod_add, 5, "DotConsoleModel", (some .int), 6, 143, 0, 0)
theorem Y_Mod_add : ax_YV μ_Mod_add y_Mod_add 0 := ⟨⟨ax_mem (by decide +kernel) rfl, ax_mem (by decide +kernel) rfl, by decide, by decide, by decide +kernel⟩, ax_mem (by decide +kernel) rfl, ax_mem (by decide +kernel) rfl⟩
theorem kf_Mod_137 : Cond.fieldLink "DotConsoleModel" 137 "DotConsoleModel" "lines" "I" ∈ ax_T := ax_mem (by decide +kernel) rfl
theorem kf_Mod_26 : Cond.fieldLink "DotConsoleModel" 26 "DotConsoleModel" "nodes" "[I" ∈ ax_T := ax_mem (by decide +kernel) rfl
theorem km_Mod_133 : Cond.methodLink "DotConsoleModel" 133 ⟨"DotConsoleModel", "work", "(IIZ)I"⟩ ∈ ax_T := ax_mem (by decide +kernel) rfl
theorem kf_Mod_29 : Cond.fieldLink "DotConsoleModel" 29 "DotConsoleModel" "place" "I" ∈ ax_T := ax_mem (by decide +kernel) rfl
theorem kf_Mod_113 : Cond.fieldLink "DotConsoleModel" 113 "DotConsoleModel" "sealed" "Z" ∈ ax_T := ax_mem (by decide +kernel) rfl
theorem km_Mod_117 : Cond.methodLink "DotConsoleModel" 117 ⟨"DotConsoleModel", "cut", "()V"⟩ ∈ ax_T := ax_mem (by decide +kernel) rfl
theorem km_Mod_120 : Cond.methodLink "DotConsoleModel" 120 ⟨"DotConsoleModel", "good", "()I"⟩ ∈ ax_T := ax_mem (by decide +kernel) rfl
def J_Mod_add_222 (N : Nat) : Nat → Int32 → St → Option (Int32 × St)
  | 0, _, _ => none
  | n + 1, l4, σ => (if (inB 28 29) = true then (if (σ.2 4 (28 : Int32).toNatClampNeg) ≤ l4 then
  (if (inB 28 29) = true then (if (inB (σ.1 1) 29) = true then ax_let (sA σ 4 (σ.1 1).toNatClampNeg (σ.2 4 (28 : Int32).toNatClampNeg)) (fun σ12 =>
  (if (inB (σ12.1 1) 29) = true then ax_let (sA σ12 5 (σ12.1 1).toNatClampNeg (σ12.1 11)) (fun σ13 =>
  ax_let (sF σ13 3 (σ13.1 13)) (fun σ14 =>
  ax_let (sF σ14 1 ((σ14.1 1) + 1)) (fun σ15 =>
  some ((σ15.1 1), σ15)))) else none)) else none) else none)
  else (if (inB (1344 + l4) 1400) = true then (if (inB ((48 * (σ.1 1)) + l4) 1400) = true then ax_let (sA σ 1 ((48 * (σ.1 1)) + l4).toNatClampNeg (σ.2 1 (1344 + l4).toNatClampNeg)) (fun σ16 =>
  (if (inB (1344 + l4) 1400) = true then (if (inB ((48 * (σ16.1 1)) + l4) 1400) = true then ax_let (sA σ16 2 ((48 * (σ16.1 1)) + l4).toNatClampNeg (σ16.2 2 (1344 + l4).toNatClampNeg)) (fun σ17 =>
  ax_let ((l4 + 1) : Int32) (fun v2 =>
  J_Mod_add_222 N n v2 σ17)) else none) else none)) else none) else none)) else none)
def J_Mod_add_159 (N : Nat) (K120 : Int32 → St → Option (Int32 × St)) (t0 : Int32) (t1 : Int32) (t2 : Int32) (l3 : Int32) (σ : St) : Option (Int32 × St) :=
  (if (t1 - t0) ≤ t2 then
  (if 16 < (σ.1 11) then
  some ((-2), σ)
  else (if 6 < (σ.1 12) then
  some ((-2), σ)
  else (if (σ.1 1) = 28 then
  some ((-2), σ)
  else (if (σ.1 13) ≤ 12 then
  J_Mod_add_222 N N 0 σ
  else some ((-2), σ)))))
  else ax_bind (J_Mod_work N 28 ((σ.1 10) + 1) 0 σ) (fun r3 σ11 =>
  K120 l3 σ11))
def J_Mod_add_158 (N : Nat) (K120 : Int32 → St → Option (Int32 × St)) (t0 : Int32) (t1 : Int32) (l3 : Int32) (σ : St) : Option (Int32 × St) :=
  J_Mod_add_159 N K120 0 t0 t1 l3 σ
def J_Mod_add_120 (N : Nat) : Nat → Int32 → St → Option (Int32 × St)
  | 0, _, _ => none
  | n + 1, l3, σ => (if (inB 28 29) = true then (if l3 = 1 then
  (if (inB 1344 1400) = true then ax_bind (J_Mod_wants N (σ.2 1 (1344 : Int32).toNatClampNeg) σ) (fun r2 σ10 =>
  (if r2 = 0 then
  J_Mod_add_159 N (fun l3 σ => J_Mod_add_120 N n l3 σ) 1 (1344 + (σ.2 4 (28 : Int32).toNatClampNeg)) (σ.1 10) l3 σ10
  else J_Mod_add_158 N (fun l3 σ => J_Mod_add_120 N n l3 σ) (1344 + (σ.2 4 (28 : Int32).toNatClampNeg)) (σ.1 10) l3 σ10)) else none)
  else J_Mod_add_158 N (fun l3 σ => J_Mod_add_120 N n l3 σ) (1344 + (σ.2 4 (28 : Int32).toNatClampNeg)) (σ.1 10) l3 σ) else none)
def J_Mod_add_108 (N : Nat) (t0 : Int32) (σ : St) : Option (Int32 × St) :=
  ax_let (sF σ 10 ((1344 + t0) - 1)) (fun σ9 =>
  J_Mod_add_120 N N t0 σ9)
def J_Mod_add_62 (N : Nat) (l2 : Int32) (σ : St) : Option (Int32 × St) :=
  ax_let (sF σ 0 0) (fun σ5 =>
  (if (inB 28 29) = true then (if (σ5.2 4 (28 : Int32).toNatClampNeg) ≤ l2 then
  ax_let (sF σ5 11 0) (fun σ6 =>
  ax_let (sF σ6 12 0) (fun σ7 =>
  (if (inB 1344 1400) = true then (if (σ7.2 1 (1344 : Int32).toNatClampNeg) = 2 then
  J_Mod_add_108 N 2 σ7
  else J_Mod_add_108 N 1 σ7) else none)))
  else some ((-3), σ5)) else none))
def J_Mod_add_59 (N : Nat) (t0 : Int32) (l2 : Int32) (σ : St) : Option (Int32 × St) :=
  ax_let (sF σ 2 t0) (fun σ8 =>
  J_Mod_add_62 N l2 σ8)
def J_Mod_add (N : Nat) (σ : St) : Option (Int32 × St) :=
  ax_let (sF σ 2 (-1)) (fun σ1 =>
  ax_let ((σ1.1 0) : Int32) (fun v1 =>
  (if (σ1.1 4) = 0 then
  ax_bindV (J_Mod_cut N σ1) (fun σ2 =>
  ax_bind (J_Mod_good N σ2) (fun r1 σ3 =>
  (if (inB 28 29) = true then (if (σ3.2 4 (28 : Int32).toNatClampNeg) ≤ r1 then
  J_Mod_add_62 N r1 σ3
  else (if 0 ≤ r1 then
  (if (inB r1 49) = true then J_Mod_add_59 N (σ3.2 3 r1.toNatClampNeg) r1 σ3 else none)
  else J_Mod_add_59 N v1 r1 σ3)) else none)))
  else ax_let (sF σ1 0 0) (fun σ4 =>
  some ((-1), σ4)))))
set_option maxHeartbeats 1000000 in
theorem t_Mod_add_222 {N : Nat} {g : ax_G} {r9 : Int32} {s9 : St} (x : ax_X) (A : Nat → Prop) : ∀ (n : Nat) (l4 : Int32) (σ : St), J_Mod_add_222 N n l4 σ = some (r9, s9) → AW x μ_Mod_add g A (wM g) (0, 0) (ax_QI x μ_Mod_add g A (wM g) (ax_eqI r9 s9)) 222 [(0, .ref (g.2.1 32)), (4, .int l4)] [] σ := by
  intro n
  induction n with
  | zero => intro l4 σ hJ; rw [J_Mod_add_222] at hJ; cases hJ
  | succ n ih =>
    intro l4 σ hJ
    rw [J_Mod_add_222] at hJ
    refine aw_iload (n := 224) d_Mod_add_222 rfl 1 rfl ?_
    refine aw_aload_n (n := 225) d_Mod_add_224 rfl rfl 0 rfl ?_
    refine gf_Mod_tokens (n := 228) d_Mod_add_225 rfl kf_Mod_23 ?_
    refine aw_bipush (n := 230) (v := 28) d_Mod_add_228 rfl (by decide) ?_
    obtain ⟨h7, hJ⟩ := ax_need hJ
    refine al_37 (n := 231) d_Mod_add_230 rfl h7 ?_
    refine aw_icmp_ge (n := 234) (t := 292) d_Mod_add_231 rfl (by decide) (fun c13 => ?_) (fun c13 => ?_)
    · rw [if_pos c13] at hJ
      refine aw_aload_n (n := 293) d_Mod_add_292 rfl rfl 0 rfl ?_
      refine gf_Mod_tokens (n := 296) d_Mod_add_293 rfl kf_Mod_23 ?_
      refine aw_aload_n (n := 297) d_Mod_add_296 rfl rfl 0 rfl ?_
      refine gf_Mod_lines (n := 300) d_Mod_add_297 rfl kf_Mod_137 ?_
      refine aw_aload_n (n := 301) d_Mod_add_300 rfl rfl 0 rfl ?_
      refine gf_Mod_tokens (n := 304) d_Mod_add_301 rfl kf_Mod_23 ?_
      refine aw_bipush (n := 306) (v := 28) d_Mod_add_304 rfl (by decide) ?_
      obtain ⟨h8, hJ⟩ := ax_need hJ
      refine al_37 (n := 307) d_Mod_add_306 rfl h8 ?_
      obtain ⟨h9, hJ⟩ := ax_need hJ
      refine as_37 (n := 308) d_Mod_add_307 rfl h9 ?_
      obtain ⟨σ12, eσ12, hJ⟩ := ax_letE hJ
      refine aw_let eσ12 ?_
      refine aw_aload_n (n := 309) d_Mod_add_308 rfl rfl 0 rfl ?_
      refine gf_Mod_nodes (n := 312) d_Mod_add_309 rfl kf_Mod_26 ?_
      refine aw_aload_n (n := 313) d_Mod_add_312 rfl rfl 0 rfl ?_
      refine gf_Mod_lines (n := 316) d_Mod_add_313 rfl kf_Mod_137 ?_
      refine aw_aload_n (n := 317) d_Mod_add_316 rfl rfl 0 rfl ?_
      refine gf_Mod_counted (n := 320) d_Mod_add_317 rfl kf_Mod_124 ?_
      obtain ⟨h10, hJ⟩ := ax_need hJ
      refine as_38 (n := 321) d_Mod_add_320 rfl h10 ?_
      obtain ⟨σ13, eσ13, hJ⟩ := ax_letE hJ
      refine aw_let eσ13 ?_
      refine aw_aload_n (n := 322) d_Mod_add_321 rfl rfl 0 rfl ?_
      refine aw_aload_n (n := 323) d_Mod_add_322 rfl rfl 0 rfl ?_
      refine gf_Mod_newNames (n := 326) d_Mod_add_323 rfl kf_Mod_94 ?_
      refine pf_Mod_names (n := 329) d_Mod_add_326 rfl kf_Mod_69 ?_
      obtain ⟨σ14, eσ14, hJ⟩ := ax_letE hJ
      refine aw_let eσ14 ?_
      refine aw_aload_n (n := 330) d_Mod_add_329 rfl rfl 0 rfl ?_
      refine aw_dup (n := 331) d_Mod_add_330 rfl rfl ?_
      refine gf_Mod_lines (n := 334) d_Mod_add_331 rfl kf_Mod_137 ?_
      refine aw_iconst (n := 335) (v := 1) d_Mod_add_334 rfl (by decide) ?_
      refine aw_iadd (n := 336) d_Mod_add_335 rfl ?_
      refine pf_Mod_lines (n := 339) d_Mod_add_336 rfl kf_Mod_137 ?_
      obtain ⟨σ15, eσ15, hJ⟩ := ax_letE hJ
      refine aw_let eσ15 ?_
      refine aw_aload_n (n := 340) d_Mod_add_339 rfl rfl 0 rfl ?_
      refine gf_Mod_lines (n := 343) d_Mod_add_340 rfl kf_Mod_137 ?_
      exact aw_iret d_Mod_add_343 rfl (ax_ret hJ)
    · rw [if_neg c13] at hJ
      refine aw_aload_n (n := 235) d_Mod_add_234 rfl rfl 0 rfl ?_
      refine gf_Mod_kind (n := 238) d_Mod_add_235 rfl kf_Mod_13 ?_
      refine aw_bipush (n := 240) (v := 48) d_Mod_add_238 rfl (by decide) ?_
      refine aw_aload_n (n := 241) d_Mod_add_240 rfl rfl 0 rfl ?_
      refine gf_Mod_lines (n := 244) d_Mod_add_241 rfl kf_Mod_137 ?_
      refine aw_imul (n := 245) d_Mod_add_244 rfl ?_
      refine aw_iload (n := 247) d_Mod_add_245 rfl 1 rfl ?_
      refine aw_iadd (n := 248) d_Mod_add_247 rfl ?_
      refine aw_aload_n (n := 249) d_Mod_add_248 rfl rfl 0 rfl ?_
      refine gf_Mod_kind (n := 252) d_Mod_add_249 rfl kf_Mod_13 ?_
      refine aw_sipush (n := 255) (v := 1344) d_Mod_add_252 rfl (by decide) ?_
      refine aw_iload (n := 257) d_Mod_add_255 rfl 1 rfl ?_
      refine aw_iadd (n := 258) d_Mod_add_257 rfl ?_
      obtain ⟨h11, hJ⟩ := ax_need hJ
      refine al_34 (n := 259) d_Mod_add_258 rfl h11 ?_
      obtain ⟨h12, hJ⟩ := ax_need hJ
      refine as_34 (n := 260) d_Mod_add_259 rfl h12 ?_
      obtain ⟨σ16, eσ16, hJ⟩ := ax_letE hJ
      refine aw_let eσ16 ?_
      refine aw_aload_n (n := 261) d_Mod_add_260 rfl rfl 0 rfl ?_
      refine gf_Mod_meaning (n := 264) d_Mod_add_261 rfl kf_Mod_17 ?_
      refine aw_bipush (n := 266) (v := 48) d_Mod_add_264 rfl (by decide) ?_
      refine aw_aload_n (n := 267) d_Mod_add_266 rfl rfl 0 rfl ?_
      refine gf_Mod_lines (n := 270) d_Mod_add_267 rfl kf_Mod_137 ?_
      refine aw_imul (n := 271) d_Mod_add_270 rfl ?_
      refine aw_iload (n := 273) d_Mod_add_271 rfl 1 rfl ?_
      refine aw_iadd (n := 274) d_Mod_add_273 rfl ?_
      refine aw_aload_n (n := 275) d_Mod_add_274 rfl rfl 0 rfl ?_
      refine gf_Mod_meaning (n := 278) d_Mod_add_275 rfl kf_Mod_17 ?_
      refine aw_sipush (n := 281) (v := 1344) d_Mod_add_278 rfl (by decide) ?_
      refine aw_iload (n := 283) d_Mod_add_281 rfl 1 rfl ?_
      refine aw_iadd (n := 284) d_Mod_add_283 rfl ?_
      obtain ⟨h13, hJ⟩ := ax_need hJ
      refine al_35 (n := 285) d_Mod_add_284 rfl h13 ?_
      obtain ⟨h14, hJ⟩ := ax_need hJ
      refine as_35 (n := 286) d_Mod_add_285 rfl h14 ?_
      obtain ⟨σ17, eσ17, hJ⟩ := ax_letE hJ
      refine aw_let eσ17 ?_
      obtain ⟨v2, ev2, hJ⟩ := ax_letE hJ
      refine aw_iinc (n := 289) (j := 1) (v := v2) d_Mod_add_286 rfl rfl (ev2) (by decide) rfl ?_
      refine aw_goto (t := 222) d_Mod_add_289 (by decide) ?_
      refine aw_sub [1, 0] rfl ?_
      exact ih _ _ hJ
set_option maxHeartbeats 1000000 in
theorem t_Mod_add_159 {N : Nat} {g : ax_G} {r9 : Int32} {s9 : St} (x : ax_X) (A : Nat → Prop) {K120 : Int32 → St → Option (Int32 × St)} (hK120 : ∀ (l3 : Int32) (σ : St), K120 l3 σ = some (r9, s9) → AW x μ_Mod_add g A (wM g) (0, 0) (ax_QI x μ_Mod_add g A (wM g) (ax_eqI r9 s9)) 120 [(0, .ref (g.2.1 32)), (3, .int l3)] [] σ) : ∀ (t0 : Int32) (t1 : Int32) (t2 : Int32) (l3 : Int32) (σ : St), J_Mod_add_159 N K120 t0 t1 t2 l3 σ = some (r9, s9) → AW x μ_Mod_add g A (wM g) (0, 0) (ax_QI x μ_Mod_add g A (wM g) (ax_eqI r9 s9)) 159 [(0, .ref (g.2.1 32)), (3, .int l3)] [.int t0, .int t1, .int t2] σ := by
  intro t0 t1 t2 l3 σ hJ
  rw [J_Mod_add_159] at hJ
  refine aw_isub (n := 160) d_Mod_add_159 rfl ?_
  refine aw_icmp_ge (n := 163) (t := 180) d_Mod_add_160 rfl (by decide) (fun c8 => ?_) (fun c8 => ?_)
  · rw [if_pos c8] at hJ
    refine aw_aload_n (n := 181) d_Mod_add_180 rfl rfl 0 rfl ?_
    refine gf_Mod_counted (n := 184) d_Mod_add_181 rfl kf_Mod_124 ?_
    refine aw_bipush (n := 186) (v := 16) d_Mod_add_184 rfl (by decide) ?_
    refine aw_icmp_gt (n := 189) (t := 216) d_Mod_add_186 rfl (by decide) (fun c9 => ?_) (fun c9 => ?_)
    · rw [if_pos c9] at hJ
      refine aw_bipush (n := 218) (v := -2) d_Mod_add_216 rfl (by decide) ?_
      exact aw_iret d_Mod_add_218 rfl (ax_ret hJ)
    · rw [if_neg c9] at hJ
      refine aw_aload_n (n := 190) d_Mod_add_189 rfl rfl 0 rfl ?_
      refine gf_Mod_highest (n := 193) d_Mod_add_190 rfl kf_Mod_127 ?_
      refine aw_bipush (n := 195) (v := 6) d_Mod_add_193 rfl (by decide) ?_
      refine aw_icmp_gt (n := 198) (t := 216) d_Mod_add_195 rfl (by decide) (fun c10 => ?_) (fun c10 => ?_)
      · rw [if_pos c10] at hJ
        refine aw_bipush (n := 218) (v := -2) d_Mod_add_216 rfl (by decide) ?_
        exact aw_iret d_Mod_add_218 rfl (ax_ret hJ)
      · rw [if_neg c10] at hJ
        refine aw_aload_n (n := 199) d_Mod_add_198 rfl rfl 0 rfl ?_
        refine gf_Mod_lines (n := 202) d_Mod_add_199 rfl kf_Mod_137 ?_
        refine aw_bipush (n := 204) (v := 28) d_Mod_add_202 rfl (by decide) ?_
        refine aw_icmp_eq (n := 207) (t := 216) d_Mod_add_204 rfl (by decide) (fun c11 => ?_) (fun c11 => ?_)
        · rw [if_pos c11] at hJ
          refine aw_bipush (n := 218) (v := -2) d_Mod_add_216 rfl (by decide) ?_
          exact aw_iret d_Mod_add_218 rfl (ax_ret hJ)
        · rw [if_neg c11] at hJ
          refine aw_aload_n (n := 208) d_Mod_add_207 rfl rfl 0 rfl ?_
          refine gf_Mod_newNames (n := 211) d_Mod_add_208 rfl kf_Mod_94 ?_
          refine aw_bipush (n := 213) (v := 12) d_Mod_add_211 rfl (by decide) ?_
          refine aw_icmp_le (n := 216) (t := 219) d_Mod_add_213 rfl (by decide) (fun c12 => ?_) (fun c12 => ?_)
          · rw [if_pos c12] at hJ
            refine aw_iconst (n := 220) (v := 0) d_Mod_add_219 rfl (by decide) ?_
            refine aw_istore (n := 222) d_Mod_add_220 rfl (by decide) rfl ?_
            refine aw_sub [1, 0] rfl ?_
            exact t_Mod_add_222 x A N _ _ hJ
          · rw [if_neg c12] at hJ
            refine aw_bipush (n := 218) (v := -2) d_Mod_add_216 rfl (by decide) ?_
            exact aw_iret d_Mod_add_218 rfl (ax_ret hJ)
  · rw [if_neg c8] at hJ
    refine aw_aload_n (n := 164) d_Mod_add_163 rfl rfl 0 rfl ?_
    refine aw_bipush (n := 166) (v := 28) d_Mod_add_164 rfl (by decide) ?_
    refine aw_aload_n (n := 167) d_Mod_add_166 rfl rfl 0 rfl ?_
    refine gf_Mod_next (n := 170) d_Mod_add_167 rfl kf_Mod_130 ?_
    refine aw_iconst (n := 171) (v := 1) d_Mod_add_170 rfl (by decide) ?_
    refine aw_iadd (n := 172) d_Mod_add_171 rfl ?_
    refine aw_iconst (n := 173) (v := 0) d_Mod_add_172 rfl (by decide) ?_
    obtain ⟨r3, σ11, hc4, hJ⟩ := ax_bindE hJ
    refine aw_callVi (n := 176) (c_Mod_work hc4) 0 rfl rfl Y_Mod_work km_Mod_133 (by decide) (by decide) rfl rfl (Nat.le_of_ble_eq_true rfl) d_Mod_add_173 rfl (fun r9 s9 hp => ?_)
    obtain ⟨rfl, rfl⟩ := hp
    refine aw_pop (n := 177) d_Mod_add_176 rfl rfl ?_
    refine aw_goto (t := 120) d_Mod_add_177 (by decide) ?_
    exact hK120 _ _ hJ
set_option maxHeartbeats 1000000 in
theorem t_Mod_add_158 {N : Nat} {g : ax_G} {r9 : Int32} {s9 : St} (x : ax_X) (A : Nat → Prop) {K120 : Int32 → St → Option (Int32 × St)} (hK120 : ∀ (l3 : Int32) (σ : St), K120 l3 σ = some (r9, s9) → AW x μ_Mod_add g A (wM g) (0, 0) (ax_QI x μ_Mod_add g A (wM g) (ax_eqI r9 s9)) 120 [(0, .ref (g.2.1 32)), (3, .int l3)] [] σ) : ∀ (t0 : Int32) (t1 : Int32) (l3 : Int32) (σ : St), J_Mod_add_158 N K120 t0 t1 l3 σ = some (r9, s9) → AW x μ_Mod_add g A (wM g) (0, 0) (ax_QI x μ_Mod_add g A (wM g) (ax_eqI r9 s9)) 158 [(0, .ref (g.2.1 32)), (3, .int l3)] [.int t0, .int t1] σ := by
  intro t0 t1 l3 σ hJ
  rw [J_Mod_add_158] at hJ
  refine aw_iconst (n := 159) (v := 0) d_Mod_add_158 rfl (by decide) ?_
  exact t_Mod_add_159 x A hK120 _ _ _ _ _ hJ
set_option maxHeartbeats 1000000 in
theorem t_Mod_add_120 {N : Nat} {g : ax_G} {r9 : Int32} {s9 : St} (x : ax_X) (A : Nat → Prop) : ∀ (n : Nat) (l3 : Int32) (σ : St), J_Mod_add_120 N n l3 σ = some (r9, s9) → AW x μ_Mod_add g A (wM g) (0, 0) (ax_QI x μ_Mod_add g A (wM g) (ax_eqI r9 s9)) 120 [(0, .ref (g.2.1 32)), (3, .int l3)] [] σ := by
  intro n
  induction n with
  | zero => intro l3 σ hJ; rw [J_Mod_add_120] at hJ; cases hJ
  | succ n ih =>
    intro l3 σ hJ
    rw [J_Mod_add_120] at hJ
    refine aw_aload_n (n := 121) d_Mod_add_120 rfl rfl 0 rfl ?_
    refine gf_Mod_next (n := 124) d_Mod_add_121 rfl kf_Mod_130 ?_
    refine aw_sipush (n := 127) (v := 1344) d_Mod_add_124 rfl (by decide) ?_
    refine aw_aload_n (n := 128) d_Mod_add_127 rfl rfl 0 rfl ?_
    refine gf_Mod_tokens (n := 131) d_Mod_add_128 rfl kf_Mod_23 ?_
    refine aw_bipush (n := 133) (v := 28) d_Mod_add_131 rfl (by decide) ?_
    obtain ⟨h5, hJ⟩ := ax_need hJ
    refine al_37 (n := 134) d_Mod_add_133 rfl h5 ?_
    refine aw_iadd (n := 135) d_Mod_add_134 rfl ?_
    refine aw_iload_n (n := 136) d_Mod_add_135 rfl rfl 1 rfl ?_
    refine aw_iconst (n := 137) (v := 1) d_Mod_add_136 rfl (by decide) ?_
    refine aw_icmp_ne (n := 140) (t := 158) d_Mod_add_137 rfl (by decide) (fun c6 => ?_) (fun c6 => ?_)
    · rw [if_neg c6] at hJ
      exact t_Mod_add_158 x A ih _ _ _ _ hJ
    · rw [if_pos c6] at hJ
      refine aw_aload_n (n := 141) d_Mod_add_140 rfl rfl 0 rfl ?_
      refine gf_Mod_kind (n := 144) d_Mod_add_141 rfl kf_Mod_13 ?_
      refine aw_sipush (n := 147) (v := 1344) d_Mod_add_144 rfl (by decide) ?_
      obtain ⟨h6, hJ⟩ := ax_need hJ
      refine al_34 (n := 148) d_Mod_add_147 rfl h6 ?_
      obtain ⟨r2, σ10, hc3, hJ⟩ := ax_bindE hJ
      refine aw_callSi (n := 151) (c_Mod_wants hc3) Y_Mod_wants km_Mod_103 (by decide) (by decide) rfl rfl (Nat.le_of_ble_eq_true rfl) d_Mod_add_148 rfl (fun r9 s9 hp => ?_)
      obtain ⟨rfl, rfl⟩ := hp
      refine aw_if_ne (n := 154) (t := 158) d_Mod_add_151 rfl (by decide) (fun c7 => ?_) (fun c7 => ?_)
      · rw [if_neg c7] at hJ
        exact t_Mod_add_158 x A ih _ _ _ _ hJ
      · rw [if_pos c7] at hJ
        refine aw_iconst (n := 155) (v := 1) d_Mod_add_154 rfl (by decide) ?_
        refine aw_goto (t := 159) d_Mod_add_155 (by decide) ?_
        exact t_Mod_add_159 x A ih _ _ _ _ _ hJ
set_option maxHeartbeats 1000000 in
theorem t_Mod_add_108 {N : Nat} {g : ax_G} {r9 : Int32} {s9 : St} (x : ax_X) (A : Nat → Prop) : ∀ (t0 : Int32) (σ : St), J_Mod_add_108 N t0 σ = some (r9, s9) → AW x μ_Mod_add g A (wM g) (0, 0) (ax_QI x μ_Mod_add g A (wM g) (ax_eqI r9 s9)) 108 [(0, .ref (g.2.1 32))] [.int t0] σ := by
  intro t0 σ hJ
  rw [J_Mod_add_108] at hJ
  refine aw_istore_n (n := 109) d_Mod_add_108 rfl rfl (by decide) rfl ?_
  refine aw_aload_n (n := 110) d_Mod_add_109 rfl rfl 1 rfl ?_
  refine aw_sipush (n := 113) (v := 1344) d_Mod_add_110 rfl (by decide) ?_
  refine aw_iload_n (n := 114) d_Mod_add_113 rfl rfl 0 rfl ?_
  refine aw_iadd (n := 115) d_Mod_add_114 rfl ?_
  refine aw_iconst (n := 116) (v := 1) d_Mod_add_115 rfl (by decide) ?_
  refine aw_isub (n := 117) d_Mod_add_116 rfl ?_
  refine pf_Mod_next (n := 120) d_Mod_add_117 rfl kf_Mod_130 ?_
  obtain ⟨σ9, eσ9, hJ⟩ := ax_letE hJ
  refine aw_let eσ9 ?_
  refine aw_sub [1, 0] rfl ?_
  exact t_Mod_add_120 x A N _ _ hJ
set_option maxHeartbeats 1000000 in
theorem t_Mod_add_62 {N : Nat} {g : ax_G} {r9 : Int32} {s9 : St} (x : ax_X) (A : Nat → Prop) : ∀ (l2 : Int32) (σ : St), J_Mod_add_62 N l2 σ = some (r9, s9) → AW x μ_Mod_add g A (wM g) (0, 0) (ax_QI x μ_Mod_add g A (wM g) (ax_eqI r9 s9)) 62 [(0, .ref (g.2.1 32)), (2, .int l2)] [] σ := by
  intro l2 σ hJ
  rw [J_Mod_add_62] at hJ
  refine aw_aload_n (n := 63) d_Mod_add_62 rfl rfl 0 rfl ?_
  refine aw_iconst (n := 64) (v := 0) d_Mod_add_63 rfl (by decide) ?_
  refine pf_Mod_length (n := 67) d_Mod_add_64 rfl kf_Mod_66 ?_
  obtain ⟨σ5, eσ5, hJ⟩ := ax_letE hJ
  refine aw_let eσ5 ?_
  refine aw_iload_n (n := 68) d_Mod_add_67 rfl rfl 1 rfl ?_
  refine aw_aload_n (n := 69) d_Mod_add_68 rfl rfl 0 rfl ?_
  refine gf_Mod_tokens (n := 72) d_Mod_add_69 rfl kf_Mod_23 ?_
  refine aw_bipush (n := 74) (v := 28) d_Mod_add_72 rfl (by decide) ?_
  obtain ⟨h3, hJ⟩ := ax_need hJ
  refine al_37 (n := 75) d_Mod_add_74 rfl h3 ?_
  refine aw_icmp_ge (n := 78) (t := 81) d_Mod_add_75 rfl (by decide) (fun c4 => ?_) (fun c4 => ?_)
  · rw [if_pos c4] at hJ
    refine aw_aload_n (n := 82) d_Mod_add_81 rfl rfl 0 rfl ?_
    refine aw_iconst (n := 83) (v := 0) d_Mod_add_82 rfl (by decide) ?_
    refine pf_Mod_counted (n := 86) d_Mod_add_83 rfl kf_Mod_124 ?_
    obtain ⟨σ6, eσ6, hJ⟩ := ax_letE hJ
    refine aw_let eσ6 ?_
    refine aw_aload_n (n := 87) d_Mod_add_86 rfl rfl 0 rfl ?_
    refine aw_iconst (n := 88) (v := 0) d_Mod_add_87 rfl (by decide) ?_
    refine pf_Mod_highest (n := 91) d_Mod_add_88 rfl kf_Mod_127 ?_
    obtain ⟨σ7, eσ7, hJ⟩ := ax_letE hJ
    refine aw_let eσ7 ?_
    refine aw_aload_n (n := 92) d_Mod_add_91 rfl rfl 0 rfl ?_
    refine gf_Mod_kind (n := 95) d_Mod_add_92 rfl kf_Mod_13 ?_
    refine aw_sipush (n := 98) (v := 1344) d_Mod_add_95 rfl (by decide) ?_
    obtain ⟨h4, hJ⟩ := ax_need hJ
    refine al_34 (n := 99) d_Mod_add_98 rfl h4 ?_
    refine aw_iconst (n := 100) (v := 2) d_Mod_add_99 rfl (by decide) ?_
    refine aw_icmp_ne (n := 103) (t := 107) d_Mod_add_100 rfl (by decide) (fun c5 => ?_) (fun c5 => ?_)
    · rw [if_neg c5] at hJ
      refine aw_iconst (n := 108) (v := 1) d_Mod_add_107 rfl (by decide) ?_
      refine aw_sub [0] rfl ?_
      exact t_Mod_add_108 x A _ _ hJ
    · rw [if_pos c5] at hJ
      refine aw_iconst (n := 104) (v := 2) d_Mod_add_103 rfl (by decide) ?_
      refine aw_goto (t := 108) d_Mod_add_104 (by decide) ?_
      refine aw_sub [0] rfl ?_
      exact t_Mod_add_108 x A _ _ hJ
  · rw [if_neg c4] at hJ
    refine aw_bipush (n := 80) (v := -3) d_Mod_add_78 rfl (by decide) ?_
    exact aw_iret d_Mod_add_80 rfl (ax_ret hJ)
set_option maxHeartbeats 1000000 in
theorem t_Mod_add_59 {N : Nat} {g : ax_G} {r9 : Int32} {s9 : St} (x : ax_X) (A : Nat → Prop) : ∀ (t0 : Int32) (l2 : Int32) (σ : St), J_Mod_add_59 N t0 l2 σ = some (r9, s9) → AW x μ_Mod_add g A (wM g) (0, 0) (ax_QI x μ_Mod_add g A (wM g) (ax_eqI r9 s9)) 59 [(0, .ref (g.2.1 32)), (2, .int l2)] [.int t0, .ref (g.2.1 32)] σ := by
  intro t0 l2 σ hJ
  rw [J_Mod_add_59] at hJ
  refine pf_Mod_place (n := 62) d_Mod_add_59 rfl kf_Mod_29 ?_
  obtain ⟨σ8, eσ8, hJ⟩ := ax_letE hJ
  refine aw_let eσ8 ?_
  exact t_Mod_add_62 x A _ _ hJ
set_option maxHeartbeats 1000000 in
theorem c_Mod_add {N : Nat} {g : ax_G} {σ : St} {r9 : Int32} {s9 : St} (hJ : J_Mod_add N σ = some (r9, s9)) : ax_CI μ_Mod_add g y_Mod_add (wM g) [.ref (g.2.1 32)] σ (ax_eqI r9 s9) := by
  refine ax_CI.of (plainFor_of_name rfl) rfl (Nat.le_of_ble_eq_true rfl) (fun x A _ => ?_)
  show AW x μ_Mod_add g A (wM g) (0, 0) (ax_QI x μ_Mod_add g A (wM g) (ax_eqI r9 s9)) 0 [(0, .ref (g.2.1 32))] [] σ
  rw [J_Mod_add] at hJ
  refine aw_aload_n (n := 1) d_Mod_add_0 rfl rfl 0 rfl ?_
  refine aw_iconst (n := 2) (v := -1) d_Mod_add_1 rfl (by decide) ?_
  refine pf_Mod_place (n := 5) d_Mod_add_2 rfl kf_Mod_29 ?_
  obtain ⟨σ1, eσ1, hJ⟩ := ax_letE hJ
  refine aw_let eσ1 ?_
  refine aw_aload_n (n := 6) d_Mod_add_5 rfl rfl 0 rfl ?_
  refine gf_Mod_length (n := 9) d_Mod_add_6 rfl kf_Mod_66 ?_
  obtain ⟨v1, ev1, hJ⟩ := ax_letE hJ
  refine aw_top ev1 ?_
  refine aw_istore_n (n := 10) d_Mod_add_9 rfl rfl (by decide) rfl ?_
  refine aw_aload_n (n := 11) d_Mod_add_10 rfl rfl 1 rfl ?_
  refine gf_Mod_sealed (n := 14) d_Mod_add_11 rfl kf_Mod_113 ?_
  refine aw_if_eq (n := 17) (t := 24) d_Mod_add_14 rfl (by decide) (fun c1 => ?_) (fun c1 => ?_)
  · rw [if_pos c1] at hJ
    refine aw_aload_n (n := 25) d_Mod_add_24 rfl rfl 1 rfl ?_
    obtain ⟨σ2, hc1, hJ⟩ := ax_bindVE hJ
    refine aw_callVv (n := 28) (c_Mod_cut hc1) 0 rfl rfl Y_Mod_cut km_Mod_117 (by decide) (by decide) rfl rfl (Nat.le_of_ble_eq_true rfl) d_Mod_add_25 rfl (fun s9 hp => ?_)
    subst hp
    refine aw_aload_n (n := 29) d_Mod_add_28 rfl rfl 1 rfl ?_
    obtain ⟨r1, σ3, hc2, hJ⟩ := ax_bindE hJ
    refine aw_callVi (n := 32) (c_Mod_good hc2) 0 rfl rfl Y_Mod_good km_Mod_120 (by decide) (by decide) rfl rfl (Nat.le_of_ble_eq_true rfl) d_Mod_add_29 rfl (fun r9 s9 hp => ?_)
    obtain ⟨rfl, rfl⟩ := hp
    refine aw_istore_n (n := 33) d_Mod_add_32 rfl rfl (by decide) rfl ?_
    refine aw_iload_n (n := 34) d_Mod_add_33 rfl rfl 0 rfl ?_
    refine aw_aload_n (n := 35) d_Mod_add_34 rfl rfl 2 rfl ?_
    refine gf_Mod_tokens (n := 38) d_Mod_add_35 rfl kf_Mod_23 ?_
    refine aw_bipush (n := 40) (v := 28) d_Mod_add_38 rfl (by decide) ?_
    obtain ⟨h1, hJ⟩ := ax_need hJ
    refine al_37 (n := 41) d_Mod_add_40 rfl h1 ?_
    refine aw_icmp_ge (n := 44) (t := 62) d_Mod_add_41 rfl (by decide) (fun c2 => ?_) (fun c2 => ?_)
    · rw [if_pos c2] at hJ
      refine aw_sub [2, 0] rfl ?_
      exact t_Mod_add_62 x A _ _ hJ
    · rw [if_neg c2] at hJ
      refine aw_aload_n (n := 45) d_Mod_add_44 rfl rfl 2 rfl ?_
      refine aw_iload_n (n := 46) d_Mod_add_45 rfl rfl 0 rfl ?_
      refine aw_if_ge (n := 49) (t := 53) d_Mod_add_46 rfl (by decide) (fun c3 => ?_) (fun c3 => ?_)
      · rw [if_pos c3] at hJ
        refine aw_aload_n (n := 54) d_Mod_add_53 rfl rfl 2 rfl ?_
        refine gf_Mod_where (n := 57) d_Mod_add_54 rfl kf_Mod_20 ?_
        refine aw_iload_n (n := 58) d_Mod_add_57 rfl rfl 0 rfl ?_
        obtain ⟨h2, hJ⟩ := ax_need hJ
        refine al_36 (n := 59) d_Mod_add_58 rfl h2 ?_
        refine aw_sub [2, 0] rfl ?_
        exact t_Mod_add_59 x A _ _ _ hJ
      · rw [if_neg c3] at hJ
        refine aw_iload_n (n := 50) d_Mod_add_49 rfl rfl 1 rfl ?_
        refine aw_goto (t := 59) d_Mod_add_50 (by decide) ?_
        refine aw_sub [2, 0] rfl ?_
        exact t_Mod_add_59 x A _ _ _ hJ
  · rw [if_neg c1] at hJ
    refine aw_aload_n (n := 18) d_Mod_add_17 rfl rfl 1 rfl ?_
    refine aw_iconst (n := 19) (v := 0) d_Mod_add_18 rfl (by decide) ?_
    refine pf_Mod_length (n := 22) d_Mod_add_19 rfl kf_Mod_66 ?_
    obtain ⟨σ4, eσ4, hJ⟩ := ax_letE hJ
    refine aw_let eσ4 ?_
    refine aw_iconst (n := 23) (v := -1) d_Mod_add_22 rfl (by decide) ?_
    exact aw_iret d_Mod_add_23 rfl (ax_ret hJ)
abbrev b_Mod_place : ByteArray := prog_10_method_16_code
def y_Mod_place : MethodName := ⟨"DotConsoleModel", "place", "()I"⟩
theorem d_Mod_place_0 : decode b_Mod_place 0 = .ok (.aload_n 0, 1) := by decide +kernel
theorem d_Mod_place_1 : decode b_Mod_place 1 = .ok (.getfield 29, 3) := by decide +kernel
theorem d_Mod_place_4 : decode b_Mod_place 4 = .ok (.ireturn, 1) := by decide +kernel
def μ_Mod_place : ax_M := (b_Mod_place, 1, "DotConsoleModel", (some .int), 0, 0, 0, 0)
theorem Y_Mod_place : ax_YV μ_Mod_place y_Mod_place 0 := ⟨⟨ax_mem (by decide +kernel) rfl, ax_mem (by decide +kernel) rfl, by decide, by decide, by decide +kernel⟩, ax_mem (by decide +kernel) rfl, ax_mem (by decide +kernel) rfl⟩
def J_Mod_place (N : Nat) (σ : St) : Option (Int32 × St) :=
  some ((σ.1 2), σ)
set_option maxHeartbeats 1000000 in
theorem c_Mod_place {N : Nat} {g : ax_G} {σ : St} {r9 : Int32} {s9 : St} (hJ : J_Mod_place N σ = some (r9, s9)) : ax_CI μ_Mod_place g y_Mod_place (wM g) [.ref (g.2.1 32)] σ (ax_eqI r9 s9) := by
  refine ax_CI.of (plainFor_of_name rfl) rfl (Nat.le_of_ble_eq_true rfl) (fun x A _ => ?_)
  show AW x μ_Mod_place g A (wM g) (0, 0) (ax_QI x μ_Mod_place g A (wM g) (ax_eqI r9 s9)) 0 [(0, .ref (g.2.1 32))] [] σ
  rw [J_Mod_place] at hJ
  refine aw_aload_n (n := 1) d_Mod_place_0 rfl rfl 0 rfl ?_
  refine gf_Mod_place (n := 4) d_Mod_place_1 rfl kf_Mod_29 ?_
  exact aw_iret d_Mod_place_4 rfl (ax_ret hJ)
abbrev b_Mod_seal : ByteArray := prog_10_method_26_code
def y_Mod_seal : MethodName := ⟨"DotConsoleModel", "seal", "()I"⟩
theorem d_Mod_seal_0 : decode b_Mod_seal 0 = .ok (.aload_n 0, 1) := by decide +kernel
theorem d_Mod_seal_1 : decode b_Mod_seal 1 = .ok (.getfield 113, 3) := by decide +kernel
theorem d_Mod_seal_4 : decode b_Mod_seal 4 = .ok (.ifCond .eq 5, 3) := by decide +kernel
theorem d_Mod_seal_7 : decode b_Mod_seal 7 = .ok (.iconst (-1), 1) := by decide +kernel
theorem d_Mod_seal_8 : decode b_Mod_seal 8 = .ok (.ireturn, 1) := by decide +kernel
theorem d_Mod_seal_9 : decode b_Mod_seal 9 = .ok (.iconst 0, 1) := by decide +kernel
theorem d_Mod_seal_10 : decode b_Mod_seal 10 = .ok (.istore_n 1, 1) := by decide +kernel
theorem d_Mod_seal_11 : decode b_Mod_seal 11 = .ok (.iconst 0, 1) := by decide +kernel
theorem d_Mod_seal_12 : decode b_Mod_seal 12 = .ok (.istore_n 2, 1) := by decide +kernel
theorem d_Mod_seal_13 : decode b_Mod_seal 13 = .ok (.iload_n 2, 1) := by decide +kernel
theorem d_Mod_seal_14 : decode b_Mod_seal 14 = .ok (.aload_n 0, 1) := by decide +kernel
theorem d_Mod_seal_15 : decode b_Mod_seal 15 = .ok (.getfield 137, 3) := by decide +kernel
theorem d_Mod_seal_18 : decode b_Mod_seal 18 = .ok (.if_icmp .ge 181, 3) := by decide +kernel
theorem d_Mod_seal_21 : decode b_Mod_seal 21 = .ok (.aload_n 0, 1) := by decide +kernel
theorem d_Mod_seal_22 : decode b_Mod_seal 22 = .ok (.getfield 13, 3) := by decide +kernel
theorem d_Mod_seal_25 : decode b_Mod_seal 25 = .ok (.bipush 48, 2) := by decide +kernel
theorem d_Mod_seal_27 : decode b_Mod_seal 27 = .ok (.iload_n 2, 1) := by decide +kernel
theorem d_Mod_seal_28 : decode b_Mod_seal 28 = .ok (.imul, 1) := by decide +kernel
theorem d_Mod_seal_29 : decode b_Mod_seal 29 = .ok (.iaload, 1) := by decide +kernel
theorem d_Mod_seal_30 : decode b_Mod_seal 30 = .ok (.istore_n 3, 1) := by decide +kernel
theorem d_Mod_seal_31 : decode b_Mod_seal 31 = .ok (.aload_n 0, 1) := by decide +kernel
theorem d_Mod_seal_32 : decode b_Mod_seal 32 = .ok (.getfield 39, 3) := by decide +kernel
theorem d_Mod_seal_35 : decode b_Mod_seal 35 = .ok (.iload_n 2, 1) := by decide +kernel
theorem d_Mod_seal_36 : decode b_Mod_seal 36 = .ok (.iconst (-1), 1) := by decide +kernel
theorem d_Mod_seal_37 : decode b_Mod_seal 37 = .ok (.iastore, 1) := by decide +kernel
theorem d_Mod_seal_38 : decode b_Mod_seal 38 = .ok (.iload_n 3, 1) := by decide +kernel
theorem d_Mod_seal_39 : decode b_Mod_seal 39 = .ok (.bipush 10, 2) := by decide +kernel
theorem d_Mod_seal_41 : decode b_Mod_seal 41 = .ok (.if_icmp .eq 9, 3) := by decide +kernel
theorem d_Mod_seal_44 : decode b_Mod_seal 44 = .ok (.iload_n 3, 1) := by decide +kernel
theorem d_Mod_seal_45 : decode b_Mod_seal 45 = .ok (.bipush 12, 2) := by decide +kernel
theorem d_Mod_seal_47 : decode b_Mod_seal 47 = .ok (.if_icmp .ne 25, 3) := by decide +kernel
theorem d_Mod_seal_50 : decode b_Mod_seal 50 = .ok (.iload_n 1, 1) := by decide +kernel
theorem d_Mod_seal_51 : decode b_Mod_seal 51 = .ok (.iconst 4, 1) := by decide +kernel
theorem d_Mod_seal_52 : decode b_Mod_seal 52 = .ok (.if_icmp .ne 7, 3) := by decide +kernel
theorem d_Mod_seal_55 : decode b_Mod_seal 55 = .ok (.iload_n 2, 1) := by decide +kernel
theorem d_Mod_seal_56 : decode b_Mod_seal 56 = .ok (.iconst 1, 1) := by decide +kernel
theorem d_Mod_seal_57 : decode b_Mod_seal 57 = .ok (.iadd, 1) := by decide +kernel
theorem d_Mod_seal_58 : decode b_Mod_seal 58 = .ok (.ireturn, 1) := by decide +kernel
theorem d_Mod_seal_59 : decode b_Mod_seal 59 = .ok (.aload_n 0, 1) := by decide +kernel
theorem d_Mod_seal_60 : decode b_Mod_seal 60 = .ok (.getfield 63, 3) := by decide +kernel
theorem d_Mod_seal_63 : decode b_Mod_seal 63 = .ok (.iload_n 1, 1) := by decide +kernel
theorem d_Mod_seal_64 : decode b_Mod_seal 64 = .ok (.iload_n 2, 1) := by decide +kernel
theorem d_Mod_seal_65 : decode b_Mod_seal 65 = .ok (.iastore, 1) := by decide +kernel
theorem d_Mod_seal_66 : decode b_Mod_seal 66 = .ok (.iinc 1 1, 3) := by decide +kernel
theorem d_Mod_seal_69 : decode b_Mod_seal 69 = .ok (.goto 124, 3) := by decide +kernel
theorem d_Mod_seal_72 : decode b_Mod_seal 72 = .ok (.iload_n 3, 1) := by decide +kernel
theorem d_Mod_seal_73 : decode b_Mod_seal 73 = .ok (.bipush 11, 2) := by decide +kernel
theorem d_Mod_seal_75 : decode b_Mod_seal 75 = .ok (.if_icmp .ne 58, 3) := by decide +kernel
theorem d_Mod_seal_78 : decode b_Mod_seal 78 = .ok (.iload_n 1, 1) := by decide +kernel
theorem d_Mod_seal_79 : decode b_Mod_seal 79 = .ok (.ifCond .eq 24, 3) := by decide +kernel
theorem d_Mod_seal_82 : decode b_Mod_seal 82 = .ok (.aload_n 0, 1) := by decide +kernel
theorem d_Mod_seal_83 : decode b_Mod_seal 83 = .ok (.getfield 13, 3) := by decide +kernel
theorem d_Mod_seal_86 : decode b_Mod_seal 86 = .ok (.bipush 48, 2) := by decide +kernel
theorem d_Mod_seal_88 : decode b_Mod_seal 88 = .ok (.aload_n 0, 1) := by decide +kernel
theorem d_Mod_seal_89 : decode b_Mod_seal 89 = .ok (.getfield 63, 3) := by decide +kernel
theorem d_Mod_seal_92 : decode b_Mod_seal 92 = .ok (.iload_n 1, 1) := by decide +kernel
theorem d_Mod_seal_93 : decode b_Mod_seal 93 = .ok (.iconst 1, 1) := by decide +kernel
theorem d_Mod_seal_94 : decode b_Mod_seal 94 = .ok (.isub, 1) := by decide +kernel
theorem d_Mod_seal_95 : decode b_Mod_seal 95 = .ok (.iaload, 1) := by decide +kernel
theorem d_Mod_seal_96 : decode b_Mod_seal 96 = .ok (.imul, 1) := by decide +kernel
theorem d_Mod_seal_97 : decode b_Mod_seal 97 = .ok (.iaload, 1) := by decide +kernel
theorem d_Mod_seal_98 : decode b_Mod_seal 98 = .ok (.bipush 10, 2) := by decide +kernel
theorem d_Mod_seal_100 : decode b_Mod_seal 100 = .ok (.if_icmp .eq 7, 3) := by decide +kernel
theorem d_Mod_seal_103 : decode b_Mod_seal 103 = .ok (.iload_n 2, 1) := by decide +kernel
theorem d_Mod_seal_104 : decode b_Mod_seal 104 = .ok (.iconst 1, 1) := by decide +kernel
theorem d_Mod_seal_105 : decode b_Mod_seal 105 = .ok (.iadd, 1) := by decide +kernel
theorem d_Mod_seal_106 : decode b_Mod_seal 106 = .ok (.ireturn, 1) := by decide +kernel
theorem d_Mod_seal_107 : decode b_Mod_seal 107 = .ok (.aload_n 0, 1) := by decide +kernel
theorem d_Mod_seal_108 : decode b_Mod_seal 108 = .ok (.getfield 39, 3) := by decide +kernel
theorem d_Mod_seal_111 : decode b_Mod_seal 111 = .ok (.aload_n 0, 1) := by decide +kernel
theorem d_Mod_seal_112 : decode b_Mod_seal 112 = .ok (.getfield 63, 3) := by decide +kernel
theorem d_Mod_seal_115 : decode b_Mod_seal 115 = .ok (.iload_n 1, 1) := by decide +kernel
theorem d_Mod_seal_116 : decode b_Mod_seal 116 = .ok (.iconst 1, 1) := by decide +kernel
theorem d_Mod_seal_117 : decode b_Mod_seal 117 = .ok (.isub, 1) := by decide +kernel
theorem d_Mod_seal_118 : decode b_Mod_seal 118 = .ok (.iaload, 1) := by decide +kernel
theorem d_Mod_seal_119 : decode b_Mod_seal 119 = .ok (.iload_n 2, 1) := by decide +kernel
theorem d_Mod_seal_120 : decode b_Mod_seal 120 = .ok (.iastore, 1) := by decide +kernel
theorem d_Mod_seal_121 : decode b_Mod_seal 121 = .ok (.aload_n 0, 1) := by decide +kernel
theorem d_Mod_seal_122 : decode b_Mod_seal 122 = .ok (.getfield 63, 3) := by decide +kernel
theorem d_Mod_seal_125 : decode b_Mod_seal 125 = .ok (.iload_n 1, 1) := by decide +kernel
theorem d_Mod_seal_126 : decode b_Mod_seal 126 = .ok (.iconst 1, 1) := by decide +kernel
theorem d_Mod_seal_127 : decode b_Mod_seal 127 = .ok (.isub, 1) := by decide +kernel
theorem d_Mod_seal_128 : decode b_Mod_seal 128 = .ok (.iload_n 2, 1) := by decide +kernel
theorem d_Mod_seal_129 : decode b_Mod_seal 129 = .ok (.iastore, 1) := by decide +kernel
theorem d_Mod_seal_130 : decode b_Mod_seal 130 = .ok (.goto 63, 3) := by decide +kernel
theorem d_Mod_seal_133 : decode b_Mod_seal 133 = .ok (.iload_n 3, 1) := by decide +kernel
theorem d_Mod_seal_134 : decode b_Mod_seal 134 = .ok (.bipush 13, 2) := by decide +kernel
theorem d_Mod_seal_136 : decode b_Mod_seal 136 = .ok (.if_icmp .ne 57, 3) := by decide +kernel
theorem d_Mod_seal_139 : decode b_Mod_seal 139 = .ok (.iload_n 1, 1) := by decide +kernel
theorem d_Mod_seal_140 : decode b_Mod_seal 140 = .ok (.ifCond .ne 7, 3) := by decide +kernel
theorem d_Mod_seal_143 : decode b_Mod_seal 143 = .ok (.iload_n 2, 1) := by decide +kernel
theorem d_Mod_seal_144 : decode b_Mod_seal 144 = .ok (.iconst 1, 1) := by decide +kernel
theorem d_Mod_seal_145 : decode b_Mod_seal 145 = .ok (.iadd, 1) := by decide +kernel
theorem d_Mod_seal_146 : decode b_Mod_seal 146 = .ok (.ireturn, 1) := by decide +kernel
theorem d_Mod_seal_147 : decode b_Mod_seal 147 = .ok (.iinc 1 (-1), 3) := by decide +kernel
theorem d_Mod_seal_150 : decode b_Mod_seal 150 = .ok (.aload_n 0, 1) := by decide +kernel
theorem d_Mod_seal_151 : decode b_Mod_seal 151 = .ok (.getfield 39, 3) := by decide +kernel
theorem d_Mod_seal_154 : decode b_Mod_seal 154 = .ok (.aload_n 0, 1) := by decide +kernel
theorem d_Mod_seal_155 : decode b_Mod_seal 155 = .ok (.getfield 63, 3) := by decide +kernel
theorem d_Mod_seal_158 : decode b_Mod_seal 158 = .ok (.iload_n 1, 1) := by decide +kernel
theorem d_Mod_seal_159 : decode b_Mod_seal 159 = .ok (.iaload, 1) := by decide +kernel
theorem d_Mod_seal_160 : decode b_Mod_seal 160 = .ok (.iload_n 2, 1) := by decide +kernel
theorem d_Mod_seal_161 : decode b_Mod_seal 161 = .ok (.iastore, 1) := by decide +kernel
theorem d_Mod_seal_162 : decode b_Mod_seal 162 = .ok (.aload_n 0, 1) := by decide +kernel
theorem d_Mod_seal_163 : decode b_Mod_seal 163 = .ok (.getfield 13, 3) := by decide +kernel
theorem d_Mod_seal_166 : decode b_Mod_seal 166 = .ok (.bipush 48, 2) := by decide +kernel
theorem d_Mod_seal_168 : decode b_Mod_seal 168 = .ok (.aload_n 0, 1) := by decide +kernel
theorem d_Mod_seal_169 : decode b_Mod_seal 169 = .ok (.getfield 63, 3) := by decide +kernel
theorem d_Mod_seal_172 : decode b_Mod_seal 172 = .ok (.iload_n 1, 1) := by decide +kernel
theorem d_Mod_seal_173 : decode b_Mod_seal 173 = .ok (.iaload, 1) := by decide +kernel
theorem d_Mod_seal_174 : decode b_Mod_seal 174 = .ok (.imul, 1) := by decide +kernel
theorem d_Mod_seal_175 : decode b_Mod_seal 175 = .ok (.iaload, 1) := by decide +kernel
theorem d_Mod_seal_176 : decode b_Mod_seal 176 = .ok (.bipush 12, 2) := by decide +kernel
theorem d_Mod_seal_178 : decode b_Mod_seal 178 = .ok (.if_icmp .ne 15, 3) := by decide +kernel
theorem d_Mod_seal_181 : decode b_Mod_seal 181 = .ok (.aload_n 0, 1) := by decide +kernel
theorem d_Mod_seal_182 : decode b_Mod_seal 182 = .ok (.getfield 39, 3) := by decide +kernel
theorem d_Mod_seal_185 : decode b_Mod_seal 185 = .ok (.iload_n 2, 1) := by decide +kernel
theorem d_Mod_seal_186 : decode b_Mod_seal 186 = .ok (.aload_n 0, 1) := by decide +kernel
theorem d_Mod_seal_187 : decode b_Mod_seal 187 = .ok (.getfield 63, 3) := by decide +kernel
theorem d_Mod_seal_190 : decode b_Mod_seal 190 = .ok (.iload_n 1, 1) := by decide +kernel
theorem d_Mod_seal_191 : decode b_Mod_seal 191 = .ok (.iaload, 1) := by decide +kernel
theorem d_Mod_seal_192 : decode b_Mod_seal 192 = .ok (.iastore, 1) := by decide +kernel
theorem d_Mod_seal_193 : decode b_Mod_seal 193 = .ok (.iinc 2 1, 3) := by decide +kernel
theorem d_Mod_seal_196 : decode b_Mod_seal 196 = .ok (.goto (-183), 3) := by decide +kernel
theorem d_Mod_seal_199 : decode b_Mod_seal 199 = .ok (.iload_n 1, 1) := by decide +kernel
theorem d_Mod_seal_200 : decode b_Mod_seal 200 = .ok (.ifCond .le 10, 3) := by decide +kernel
theorem d_Mod_seal_203 : decode b_Mod_seal 203 = .ok (.aload_n 0, 1) := by decide +kernel
theorem d_Mod_seal_204 : decode b_Mod_seal 204 = .ok (.getfield 137, 3) := by decide +kernel
theorem d_Mod_seal_207 : decode b_Mod_seal 207 = .ok (.iconst 1, 1) := by decide +kernel
theorem d_Mod_seal_208 : decode b_Mod_seal 208 = .ok (.iadd, 1) := by decide +kernel
theorem d_Mod_seal_209 : decode b_Mod_seal 209 = .ok (.ireturn, 1) := by decide +kernel
theorem d_Mod_seal_210 : decode b_Mod_seal 210 = .ok (.aload_n 0, 1) := by decide +kernel
theorem d_Mod_seal_211 : decode b_Mod_seal 211 = .ok (.iconst 1, 1) := by decide +kernel
theorem d_Mod_seal_212 : decode b_Mod_seal 212 = .ok (.putfield 113, 3) := by decide +kernel
theorem d_Mod_seal_215 : decode b_Mod_seal 215 = .ok (.iconst 0, 1) := by decide +kernel
theorem d_Mod_seal_216 : decode b_Mod_seal 216 = .ok (.ireturn, 1) := by decide +kernel
def μ_Mod_seal : ax_M := (b_Mod_seal, 4, "DotConsoleModel", (some .int), 0, 0, 0, 0)
theorem Y_Mod_seal : ax_YV μ_Mod_seal y_Mod_seal 0 := ⟨⟨ax_mem (by decide +kernel) rfl, ax_mem (by decide +kernel) rfl, by decide, by decide, by decide +kernel⟩, ax_mem (by decide +kernel) rfl, ax_mem (by decide +kernel) rfl⟩
theorem kf_Mod_63 : Cond.fieldLink "DotConsoleModel" 63 "DotConsoleModel" "args" "[I" ∈ ax_T := ax_mem (by decide +kernel) rfl
theorem kf_Mod_39 : Cond.fieldLink "DotConsoleModel" 39 "DotConsoleModel" "other" "[I" ∈ ax_T := ax_mem (by decide +kernel) rfl
def J_Mod_seal_50 (N : Nat) (K13 : Int32 → Int32 → St → Option (Int32 × St)) (l1 : Int32) (l2 : Int32) (σ : St) : Option (Int32 × St) :=
  (if l1 = 4 then
  some ((l2 + 1), σ)
  else (if (inB l1 6) = true then ax_let (sA σ 15 l1.toNatClampNeg l2) (fun σ7 =>
  ax_let ((l1 + 1) : Int32) (fun v7 =>
  ax_let ((l2 + 1) : Int32) (fun v8 =>
  K13 v7 v8 σ7))) else none))
def J_Mod_seal_13 (N : Nat) : Nat → Int32 → Int32 → St → Option (Int32 × St)
  | 0, _, _, _ => none
  | n + 1, l1, l2, σ => (if (σ.1 1) ≤ l2 then
  (if l1 ≤ 0 then
  ax_let (sF σ 4 1) (fun σ1 =>
  some (0, σ1))
  else some (((σ.1 1) + 1), σ))
  else (if (inB (48 * l2) 1400) = true then ax_let ((σ.2 1 (48 * l2).toNatClampNeg) : Int32) (fun v1 =>
  (if (inB l2 30) = true then ax_let (sA σ 8 l2.toNatClampNeg (-1)) (fun σ2 =>
  (if v1 = 10 then
  J_Mod_seal_50 N (fun l1 l2 σ => J_Mod_seal_13 N n l1 l2 σ) l1 l2 σ2
  else (if v1 = 12 then
  J_Mod_seal_50 N (fun l1 l2 σ => J_Mod_seal_13 N n l1 l2 σ) l1 l2 σ2
  else (if v1 = 11 then
  (if l1 = 0 then
  some ((l2 + 1), σ2)
  else (if (inB (l1 - 1) 6) = true then (if (inB (48 * (σ2.2 15 (l1 - 1).toNatClampNeg)) 1400) = true then (if (σ2.2 1 (48 * (σ2.2 15 (l1 - 1).toNatClampNeg)).toNatClampNeg) = 10 then
  (if (inB (l1 - 1) 6) = true then (if (inB (σ2.2 15 (l1 - 1).toNatClampNeg) 30) = true then ax_let (sA σ2 8 (σ2.2 15 (l1 - 1).toNatClampNeg).toNatClampNeg l2) (fun σ5 =>
  (if (inB (l1 - 1) 6) = true then ax_let (sA σ5 15 (l1 - 1).toNatClampNeg l2) (fun σ6 =>
  ax_let ((l2 + 1) : Int32) (fun v6 =>
  J_Mod_seal_13 N n l1 v6 σ6)) else none)) else none) else none)
  else some ((l2 + 1), σ2)) else none) else none))
  else (if v1 = 13 then
  (if l1 = 0 then
  some ((l2 + 1), σ2)
  else ax_let ((l1 + (-1)) : Int32) (fun v3 =>
  (if (inB v3 6) = true then (if (inB (σ2.2 15 v3.toNatClampNeg) 30) = true then ax_let (sA σ2 8 (σ2.2 15 v3.toNatClampNeg).toNatClampNeg l2) (fun σ3 =>
  (if (inB v3 6) = true then (if (inB (48 * (σ3.2 15 v3.toNatClampNeg)) 1400) = true then (if (σ3.2 1 (48 * (σ3.2 15 v3.toNatClampNeg)).toNatClampNeg) = 12 then
  (if (inB v3 6) = true then (if (inB l2 30) = true then ax_let (sA σ3 8 l2.toNatClampNeg (σ3.2 15 v3.toNatClampNeg)) (fun σ4 =>
  ax_let ((l2 + 1) : Int32) (fun v5 =>
  J_Mod_seal_13 N n v3 v5 σ4)) else none) else none)
  else ax_let ((l2 + 1) : Int32) (fun v4 =>
  J_Mod_seal_13 N n v3 v4 σ3)) else none) else none)) else none) else none)))
  else ax_let ((l2 + 1) : Int32) (fun v2 =>
  J_Mod_seal_13 N n l1 v2 σ2)))))) else none)) else none))
def J_Mod_seal (N : Nat) (σ : St) : Option (Int32 × St) :=
  (if (σ.1 4) = 0 then
  J_Mod_seal_13 N N 0 0 σ
  else some ((-1), σ))
set_option maxHeartbeats 1000000 in
theorem t_Mod_seal_50 {N : Nat} {g : ax_G} {r9 : Int32} {s9 : St} (x : ax_X) (A : Nat → Prop) {K13 : Int32 → Int32 → St → Option (Int32 × St)} (hK13 : ∀ (l1 : Int32) (l2 : Int32) (σ : St), K13 l1 l2 σ = some (r9, s9) → AW x μ_Mod_seal g A (wM g) (0, 0) (ax_QI x μ_Mod_seal g A (wM g) (ax_eqI r9 s9)) 13 [(0, .ref (g.2.1 32)), (1, .int l1), (2, .int l2)] [] σ) : ∀ (l1 : Int32) (l2 : Int32) (σ : St), J_Mod_seal_50 N K13 l1 l2 σ = some (r9, s9) → AW x μ_Mod_seal g A (wM g) (0, 0) (ax_QI x μ_Mod_seal g A (wM g) (ax_eqI r9 s9)) 50 [(0, .ref (g.2.1 32)), (1, .int l1), (2, .int l2)] [] σ := by
  intro l1 l2 σ hJ
  rw [J_Mod_seal_50] at hJ
  refine aw_iload_n (n := 51) d_Mod_seal_50 rfl rfl 1 rfl ?_
  refine aw_iconst (n := 52) (v := 4) d_Mod_seal_51 rfl (by decide) ?_
  refine aw_icmp_ne (n := 55) (t := 59) d_Mod_seal_52 rfl (by decide) (fun c12 => ?_) (fun c12 => ?_)
  · rw [if_neg c12] at hJ
    refine aw_aload_n (n := 60) d_Mod_seal_59 rfl rfl 0 rfl ?_
    refine gf_Mod_args (n := 63) d_Mod_seal_60 rfl kf_Mod_63 ?_
    refine aw_iload_n (n := 64) d_Mod_seal_63 rfl rfl 1 rfl ?_
    refine aw_iload_n (n := 65) d_Mod_seal_64 rfl rfl 2 rfl ?_
    obtain ⟨h14, hJ⟩ := ax_need hJ
    refine as_48 (n := 66) d_Mod_seal_65 rfl h14 ?_
    obtain ⟨σ7, eσ7, hJ⟩ := ax_letE hJ
    refine aw_let eσ7 ?_
    obtain ⟨v7, ev7, hJ⟩ := ax_letE hJ
    refine aw_iinc (n := 69) (j := 1) (v := v7) d_Mod_seal_66 rfl rfl (ev7) (by decide) rfl ?_
    refine aw_goto (t := 193) d_Mod_seal_69 (by decide) ?_
    obtain ⟨v8, ev8, hJ⟩ := ax_letE hJ
    refine aw_iinc (n := 196) (j := 2) (v := v8) d_Mod_seal_193 rfl rfl (ev8) (by decide) rfl ?_
    refine aw_goto (t := 13) d_Mod_seal_196 (by decide) ?_
    refine aw_sub [2, 1, 0] rfl ?_
    exact hK13 _ _ _ hJ
  · rw [if_pos c12] at hJ
    refine aw_iload_n (n := 56) d_Mod_seal_55 rfl rfl 2 rfl ?_
    refine aw_iconst (n := 57) (v := 1) d_Mod_seal_56 rfl (by decide) ?_
    refine aw_iadd (n := 58) d_Mod_seal_57 rfl ?_
    exact aw_iret d_Mod_seal_58 rfl (ax_ret hJ)
set_option maxHeartbeats 1000000 in
theorem t_Mod_seal_13 {N : Nat} {g : ax_G} {r9 : Int32} {s9 : St} (x : ax_X) (A : Nat → Prop) : ∀ (n : Nat) (l1 : Int32) (l2 : Int32) (σ : St), J_Mod_seal_13 N n l1 l2 σ = some (r9, s9) → AW x μ_Mod_seal g A (wM g) (0, 0) (ax_QI x μ_Mod_seal g A (wM g) (ax_eqI r9 s9)) 13 [(0, .ref (g.2.1 32)), (1, .int l1), (2, .int l2)] [] σ := by
  intro n
  induction n with
  | zero => intro l1 l2 σ hJ; rw [J_Mod_seal_13] at hJ; cases hJ
  | succ n ih =>
    intro l1 l2 σ hJ
    rw [J_Mod_seal_13] at hJ
    refine aw_iload_n (n := 14) d_Mod_seal_13 rfl rfl 2 rfl ?_
    refine aw_aload_n (n := 15) d_Mod_seal_14 rfl rfl 0 rfl ?_
    refine gf_Mod_lines (n := 18) d_Mod_seal_15 rfl kf_Mod_137 ?_
    refine aw_icmp_ge (n := 21) (t := 199) d_Mod_seal_18 rfl (by decide) (fun c2 => ?_) (fun c2 => ?_)
    · rw [if_pos c2] at hJ
      refine aw_iload_n (n := 200) d_Mod_seal_199 rfl rfl 1 rfl ?_
      refine aw_if_le (n := 203) (t := 210) d_Mod_seal_200 rfl (by decide) (fun c3 => ?_) (fun c3 => ?_)
      · rw [if_pos c3] at hJ
        refine aw_aload_n (n := 211) d_Mod_seal_210 rfl rfl 0 rfl ?_
        refine aw_iconst (n := 212) (v := 1) d_Mod_seal_211 rfl (by decide) ?_
        refine pf_Mod_sealed (n := 215) d_Mod_seal_212 rfl kf_Mod_113 rfl rfl ?_
        obtain ⟨σ1, eσ1, hJ⟩ := ax_letE hJ
        refine aw_let eσ1 ?_
        refine aw_iconst (n := 216) (v := 0) d_Mod_seal_215 rfl (by decide) ?_
        exact aw_iret d_Mod_seal_216 rfl (ax_ret hJ)
      · rw [if_neg c3] at hJ
        refine aw_aload_n (n := 204) d_Mod_seal_203 rfl rfl 0 rfl ?_
        refine gf_Mod_lines (n := 207) d_Mod_seal_204 rfl kf_Mod_137 ?_
        refine aw_iconst (n := 208) (v := 1) d_Mod_seal_207 rfl (by decide) ?_
        refine aw_iadd (n := 209) d_Mod_seal_208 rfl ?_
        exact aw_iret d_Mod_seal_209 rfl (ax_ret hJ)
    · rw [if_neg c2] at hJ
      refine aw_aload_n (n := 22) d_Mod_seal_21 rfl rfl 0 rfl ?_
      refine gf_Mod_kind (n := 25) d_Mod_seal_22 rfl kf_Mod_13 ?_
      refine aw_bipush (n := 27) (v := 48) d_Mod_seal_25 rfl (by decide) ?_
      refine aw_iload_n (n := 28) d_Mod_seal_27 rfl rfl 2 rfl ?_
      refine aw_imul (n := 29) d_Mod_seal_28 rfl ?_
      obtain ⟨h1, hJ⟩ := ax_need hJ
      refine al_34 (n := 30) d_Mod_seal_29 rfl h1 ?_
      obtain ⟨v1, ev1, hJ⟩ := ax_letE hJ
      refine aw_top ev1 ?_
      refine aw_istore_n (n := 31) d_Mod_seal_30 rfl rfl (by decide) rfl ?_
      refine aw_aload_n (n := 32) d_Mod_seal_31 rfl rfl 1 rfl ?_
      refine gf_Mod_other (n := 35) d_Mod_seal_32 rfl kf_Mod_39 ?_
      refine aw_iload_n (n := 36) d_Mod_seal_35 rfl rfl 3 rfl ?_
      refine aw_iconst (n := 37) (v := -1) d_Mod_seal_36 rfl (by decide) ?_
      obtain ⟨h2, hJ⟩ := ax_need hJ
      refine as_41 (n := 38) d_Mod_seal_37 rfl h2 ?_
      obtain ⟨σ2, eσ2, hJ⟩ := ax_letE hJ
      refine aw_let eσ2 ?_
      refine aw_iload_n (n := 39) d_Mod_seal_38 rfl rfl 0 rfl ?_
      refine aw_bipush (n := 41) (v := 10) d_Mod_seal_39 rfl (by decide) ?_
      refine aw_icmp_eq (n := 44) (t := 50) d_Mod_seal_41 rfl (by decide) (fun c4 => ?_) (fun c4 => ?_)
      · rw [if_pos c4] at hJ
        refine aw_sub [1, 2, 3] rfl ?_
        exact t_Mod_seal_50 x A ih _ _ _ hJ
      · rw [if_neg c4] at hJ
        refine aw_iload_n (n := 45) d_Mod_seal_44 rfl rfl 0 rfl ?_
        refine aw_bipush (n := 47) (v := 12) d_Mod_seal_45 rfl (by decide) ?_
        refine aw_icmp_ne (n := 50) (t := 72) d_Mod_seal_47 rfl (by decide) (fun c5 => ?_) (fun c5 => ?_)
        · rw [if_neg c5] at hJ
          refine aw_iload_n (n := 73) d_Mod_seal_72 rfl rfl 0 rfl ?_
          refine aw_bipush (n := 75) (v := 11) d_Mod_seal_73 rfl (by decide) ?_
          refine aw_icmp_ne (n := 78) (t := 133) d_Mod_seal_75 rfl (by decide) (fun c6 => ?_) (fun c6 => ?_)
          · rw [if_neg c6] at hJ
            refine aw_iload_n (n := 134) d_Mod_seal_133 rfl rfl 0 rfl ?_
            refine aw_bipush (n := 136) (v := 13) d_Mod_seal_134 rfl (by decide) ?_
            refine aw_icmp_ne (n := 139) (t := 193) d_Mod_seal_136 rfl (by decide) (fun c7 => ?_) (fun c7 => ?_)
            · rw [if_neg c7] at hJ
              obtain ⟨v2, ev2, hJ⟩ := ax_letE hJ
              refine aw_iinc (n := 196) (j := 3) (v := v2) d_Mod_seal_193 rfl rfl (ev2) (by decide) rfl ?_
              refine aw_goto (t := 13) d_Mod_seal_196 (by decide) ?_
              refine aw_sub [2, 3, 0] rfl ?_
              exact ih _ _ _ hJ
            · rw [if_pos c7] at hJ
              refine aw_iload_n (n := 140) d_Mod_seal_139 rfl rfl 2 rfl ?_
              refine aw_if_ne (n := 143) (t := 147) d_Mod_seal_140 rfl (by decide) (fun c8 => ?_) (fun c8 => ?_)
              · rw [if_neg c8] at hJ
                obtain ⟨v3, ev3, hJ⟩ := ax_letE hJ
                refine aw_iinc (n := 150) (j := 2) (v := v3) d_Mod_seal_147 rfl rfl (ev3) (by decide) rfl ?_
                refine aw_aload_n (n := 151) d_Mod_seal_150 rfl rfl 2 rfl ?_
                refine gf_Mod_other (n := 154) d_Mod_seal_151 rfl kf_Mod_39 ?_
                refine aw_aload_n (n := 155) d_Mod_seal_154 rfl rfl 2 rfl ?_
                refine gf_Mod_args (n := 158) d_Mod_seal_155 rfl kf_Mod_63 ?_
                refine aw_iload_n (n := 159) d_Mod_seal_158 rfl rfl 0 rfl ?_
                obtain ⟨h3, hJ⟩ := ax_need hJ
                refine al_48 (n := 160) d_Mod_seal_159 rfl h3 ?_
                refine aw_iload_n (n := 161) d_Mod_seal_160 rfl rfl 3 rfl ?_
                obtain ⟨h4, hJ⟩ := ax_need hJ
                refine as_41 (n := 162) d_Mod_seal_161 rfl h4 ?_
                obtain ⟨σ3, eσ3, hJ⟩ := ax_letE hJ
                refine aw_let eσ3 ?_
                refine aw_aload_n (n := 163) d_Mod_seal_162 rfl rfl 2 rfl ?_
                refine gf_Mod_kind (n := 166) d_Mod_seal_163 rfl kf_Mod_13 ?_
                refine aw_bipush (n := 168) (v := 48) d_Mod_seal_166 rfl (by decide) ?_
                refine aw_aload_n (n := 169) d_Mod_seal_168 rfl rfl 2 rfl ?_
                refine gf_Mod_args (n := 172) d_Mod_seal_169 rfl kf_Mod_63 ?_
                refine aw_iload_n (n := 173) d_Mod_seal_172 rfl rfl 0 rfl ?_
                obtain ⟨h5, hJ⟩ := ax_need hJ
                refine al_48 (n := 174) d_Mod_seal_173 rfl h5 ?_
                refine aw_imul (n := 175) d_Mod_seal_174 rfl ?_
                obtain ⟨h6, hJ⟩ := ax_need hJ
                refine al_34 (n := 176) d_Mod_seal_175 rfl h6 ?_
                refine aw_bipush (n := 178) (v := 12) d_Mod_seal_176 rfl (by decide) ?_
                refine aw_icmp_ne (n := 181) (t := 193) d_Mod_seal_178 rfl (by decide) (fun c9 => ?_) (fun c9 => ?_)
                · rw [if_neg c9] at hJ
                  obtain ⟨v4, ev4, hJ⟩ := ax_letE hJ
                  refine aw_iinc (n := 196) (j := 3) (v := v4) d_Mod_seal_193 rfl rfl (ev4) (by decide) rfl ?_
                  refine aw_goto (t := 13) d_Mod_seal_196 (by decide) ?_
                  refine aw_sub [3, 1, 0] rfl ?_
                  exact ih _ _ _ hJ
                · rw [if_pos c9] at hJ
                  refine aw_aload_n (n := 182) d_Mod_seal_181 rfl rfl 2 rfl ?_
                  refine gf_Mod_other (n := 185) d_Mod_seal_182 rfl kf_Mod_39 ?_
                  refine aw_iload_n (n := 186) d_Mod_seal_185 rfl rfl 3 rfl ?_
                  refine aw_aload_n (n := 187) d_Mod_seal_186 rfl rfl 2 rfl ?_
                  refine gf_Mod_args (n := 190) d_Mod_seal_187 rfl kf_Mod_63 ?_
                  refine aw_iload_n (n := 191) d_Mod_seal_190 rfl rfl 0 rfl ?_
                  obtain ⟨h7, hJ⟩ := ax_need hJ
                  refine al_48 (n := 192) d_Mod_seal_191 rfl h7 ?_
                  obtain ⟨h8, hJ⟩ := ax_need hJ
                  refine as_41 (n := 193) d_Mod_seal_192 rfl h8 ?_
                  obtain ⟨σ4, eσ4, hJ⟩ := ax_letE hJ
                  refine aw_let eσ4 ?_
                  obtain ⟨v5, ev5, hJ⟩ := ax_letE hJ
                  refine aw_iinc (n := 196) (j := 3) (v := v5) d_Mod_seal_193 rfl rfl (ev5) (by decide) rfl ?_
                  refine aw_goto (t := 13) d_Mod_seal_196 (by decide) ?_
                  refine aw_sub [3, 1, 0] rfl ?_
                  exact ih _ _ _ hJ
              · rw [if_pos c8] at hJ
                refine aw_iload_n (n := 144) d_Mod_seal_143 rfl rfl 3 rfl ?_
                refine aw_iconst (n := 145) (v := 1) d_Mod_seal_144 rfl (by decide) ?_
                refine aw_iadd (n := 146) d_Mod_seal_145 rfl ?_
                exact aw_iret d_Mod_seal_146 rfl (ax_ret hJ)
          · rw [if_pos c6] at hJ
            refine aw_iload_n (n := 79) d_Mod_seal_78 rfl rfl 2 rfl ?_
            refine aw_if_eq (n := 82) (t := 103) d_Mod_seal_79 rfl (by decide) (fun c10 => ?_) (fun c10 => ?_)
            · rw [if_pos c10] at hJ
              refine aw_iload_n (n := 104) d_Mod_seal_103 rfl rfl 3 rfl ?_
              refine aw_iconst (n := 105) (v := 1) d_Mod_seal_104 rfl (by decide) ?_
              refine aw_iadd (n := 106) d_Mod_seal_105 rfl ?_
              exact aw_iret d_Mod_seal_106 rfl (ax_ret hJ)
            · rw [if_neg c10] at hJ
              refine aw_aload_n (n := 83) d_Mod_seal_82 rfl rfl 1 rfl ?_
              refine gf_Mod_kind (n := 86) d_Mod_seal_83 rfl kf_Mod_13 ?_
              refine aw_bipush (n := 88) (v := 48) d_Mod_seal_86 rfl (by decide) ?_
              refine aw_aload_n (n := 89) d_Mod_seal_88 rfl rfl 1 rfl ?_
              refine gf_Mod_args (n := 92) d_Mod_seal_89 rfl kf_Mod_63 ?_
              refine aw_iload_n (n := 93) d_Mod_seal_92 rfl rfl 2 rfl ?_
              refine aw_iconst (n := 94) (v := 1) d_Mod_seal_93 rfl (by decide) ?_
              refine aw_isub (n := 95) d_Mod_seal_94 rfl ?_
              obtain ⟨h9, hJ⟩ := ax_need hJ
              refine al_48 (n := 96) d_Mod_seal_95 rfl h9 ?_
              refine aw_imul (n := 97) d_Mod_seal_96 rfl ?_
              obtain ⟨h10, hJ⟩ := ax_need hJ
              refine al_34 (n := 98) d_Mod_seal_97 rfl h10 ?_
              refine aw_bipush (n := 100) (v := 10) d_Mod_seal_98 rfl (by decide) ?_
              refine aw_icmp_eq (n := 103) (t := 107) d_Mod_seal_100 rfl (by decide) (fun c11 => ?_) (fun c11 => ?_)
              · rw [if_pos c11] at hJ
                refine aw_aload_n (n := 108) d_Mod_seal_107 rfl rfl 1 rfl ?_
                refine gf_Mod_other (n := 111) d_Mod_seal_108 rfl kf_Mod_39 ?_
                refine aw_aload_n (n := 112) d_Mod_seal_111 rfl rfl 1 rfl ?_
                refine gf_Mod_args (n := 115) d_Mod_seal_112 rfl kf_Mod_63 ?_
                refine aw_iload_n (n := 116) d_Mod_seal_115 rfl rfl 2 rfl ?_
                refine aw_iconst (n := 117) (v := 1) d_Mod_seal_116 rfl (by decide) ?_
                refine aw_isub (n := 118) d_Mod_seal_117 rfl ?_
                obtain ⟨h11, hJ⟩ := ax_need hJ
                refine al_48 (n := 119) d_Mod_seal_118 rfl h11 ?_
                refine aw_iload_n (n := 120) d_Mod_seal_119 rfl rfl 3 rfl ?_
                obtain ⟨h12, hJ⟩ := ax_need hJ
                refine as_41 (n := 121) d_Mod_seal_120 rfl h12 ?_
                obtain ⟨σ5, eσ5, hJ⟩ := ax_letE hJ
                refine aw_let eσ5 ?_
                refine aw_aload_n (n := 122) d_Mod_seal_121 rfl rfl 1 rfl ?_
                refine gf_Mod_args (n := 125) d_Mod_seal_122 rfl kf_Mod_63 ?_
                refine aw_iload_n (n := 126) d_Mod_seal_125 rfl rfl 2 rfl ?_
                refine aw_iconst (n := 127) (v := 1) d_Mod_seal_126 rfl (by decide) ?_
                refine aw_isub (n := 128) d_Mod_seal_127 rfl ?_
                refine aw_iload_n (n := 129) d_Mod_seal_128 rfl rfl 3 rfl ?_
                obtain ⟨h13, hJ⟩ := ax_need hJ
                refine as_48 (n := 130) d_Mod_seal_129 rfl h13 ?_
                obtain ⟨σ6, eσ6, hJ⟩ := ax_letE hJ
                refine aw_let eσ6 ?_
                refine aw_goto (t := 193) d_Mod_seal_130 (by decide) ?_
                obtain ⟨v6, ev6, hJ⟩ := ax_letE hJ
                refine aw_iinc (n := 196) (j := 3) (v := v6) d_Mod_seal_193 rfl rfl (ev6) (by decide) rfl ?_
                refine aw_goto (t := 13) d_Mod_seal_196 (by decide) ?_
                refine aw_sub [2, 3, 0] rfl ?_
                exact ih _ _ _ hJ
              · rw [if_neg c11] at hJ
                refine aw_iload_n (n := 104) d_Mod_seal_103 rfl rfl 3 rfl ?_
                refine aw_iconst (n := 105) (v := 1) d_Mod_seal_104 rfl (by decide) ?_
                refine aw_iadd (n := 106) d_Mod_seal_105 rfl ?_
                exact aw_iret d_Mod_seal_106 rfl (ax_ret hJ)
        · rw [if_pos c5] at hJ
          refine aw_sub [1, 2, 3] rfl ?_
          exact t_Mod_seal_50 x A ih _ _ _ hJ
set_option maxHeartbeats 1000000 in
theorem c_Mod_seal {N : Nat} {g : ax_G} {σ : St} {r9 : Int32} {s9 : St} (hJ : J_Mod_seal N σ = some (r9, s9)) : ax_CI μ_Mod_seal g y_Mod_seal (wM g) [.ref (g.2.1 32)] σ (ax_eqI r9 s9) := by
  refine ax_CI.of (plainFor_of_name rfl) rfl (Nat.le_of_ble_eq_true rfl) (fun x A _ => ?_)
  show AW x μ_Mod_seal g A (wM g) (0, 0) (ax_QI x μ_Mod_seal g A (wM g) (ax_eqI r9 s9)) 0 [(0, .ref (g.2.1 32))] [] σ
  rw [J_Mod_seal] at hJ
  refine aw_aload_n (n := 1) d_Mod_seal_0 rfl rfl 0 rfl ?_
  refine gf_Mod_sealed (n := 4) d_Mod_seal_1 rfl kf_Mod_113 ?_
  refine aw_if_eq (n := 7) (t := 9) d_Mod_seal_4 rfl (by decide) (fun c1 => ?_) (fun c1 => ?_)
  · rw [if_pos c1] at hJ
    refine aw_iconst (n := 10) (v := 0) d_Mod_seal_9 rfl (by decide) ?_
    refine aw_istore_n (n := 11) d_Mod_seal_10 rfl rfl (by decide) rfl ?_
    refine aw_iconst (n := 12) (v := 0) d_Mod_seal_11 rfl (by decide) ?_
    refine aw_istore_n (n := 13) d_Mod_seal_12 rfl rfl (by decide) rfl ?_
    refine aw_sub [2, 1, 0] rfl ?_
    exact t_Mod_seal_13 x A N _ _ _ hJ
  · rw [if_neg c1] at hJ
    refine aw_iconst (n := 8) (v := -1) d_Mod_seal_7 rfl (by decide) ?_
    exact aw_iret d_Mod_seal_8 rfl (ax_ret hJ)
