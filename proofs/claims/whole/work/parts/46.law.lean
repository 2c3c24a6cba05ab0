/-! THE LAW'S WALK. Printed by wip/whole/gen_law.py. -/
abbrev b_law : ByteArray := code
theorem d_law_0 : decode b_law 0 = .ok (.new 7, 3) := by decide +kernel
theorem d_law_3 : decode b_law 3 = .ok (.dup, 1) := by decide +kernel
theorem d_law_4 : decode b_law 4 = .ok (.invokespecial 9, 3) := by decide +kernel
theorem d_law_7 : decode b_law 7 = .ok (.astore_n 1, 1) := by decide +kernel
theorem d_law_8 : decode b_law 8 = .ok (.new 10, 3) := by decide +kernel
theorem d_law_11 : decode b_law 11 = .ok (.dup, 1) := by decide +kernel
theorem d_law_12 : decode b_law 12 = .ok (.invokespecial 12, 3) := by decide +kernel
theorem d_law_15 : decode b_law 15 = .ok (.astore_n 2, 1) := by decide +kernel
theorem d_law_16 : decode b_law 16 = .ok (.iconst 0, 1) := by decide +kernel
theorem d_law_17 : decode b_law 17 = .ok (.istore_n 3, 1) := by decide +kernel
theorem d_law_18 : decode b_law 18 = .ok (.iload_n 3, 1) := by decide +kernel
theorem d_law_19 : decode b_law 19 = .ok (.aload_n 0, 1) := by decide +kernel
theorem d_law_20 : decode b_law 20 = .ok (.arraylength, 1) := by decide +kernel
theorem d_law_21 : decode b_law 21 = .ok (.iconst 3, 1) := by decide +kernel
theorem d_law_22 : decode b_law 22 = .ok (.isub, 1) := by decide +kernel
theorem d_law_23 : decode b_law 23 = .ok (.if_icmp .gt 335, 3) := by decide +kernel
theorem d_law_26 : decode b_law 26 = .ok (.aload_n 0, 1) := by decide +kernel
theorem d_law_27 : decode b_law 27 = .ok (.iload_n 3, 1) := by decide +kernel
theorem d_law_28 : decode b_law 28 = .ok (.iaload, 1) := by decide +kernel
theorem d_law_29 : decode b_law 29 = .ok (.bipush 15, 2) := by decide +kernel
theorem d_law_31 : decode b_law 31 = .ok (.iand, 1) := by decide +kernel
theorem d_law_32 : decode b_law 32 = .ok (.tableswitch 320 0 11 #[64, 87, 100, 113, 126, 149, 162, 195, 218, 251, 274, 297], 64) := by decide +kernel
theorem d_law_96 : decode b_law 96 = .ok (.aload_n 1, 1) := by decide +kernel
theorem d_law_97 : decode b_law 97 = .ok (.aload_n 0, 1) := by decide +kernel
theorem d_law_98 : decode b_law 98 = .ok (.iload_n 3, 1) := by decide +kernel
theorem d_law_99 : decode b_law 99 = .ok (.iconst 1, 1) := by decide +kernel
theorem d_law_100 : decode b_law 100 = .ok (.iadd, 1) := by decide +kernel
theorem d_law_101 : decode b_law 101 = .ok (.iaload, 1) := by decide +kernel
theorem d_law_102 : decode b_law 102 = .ok (.invokevirtual 13, 3) := by decide +kernel
theorem d_law_105 : decode b_law 105 = .ok (.aload_n 2, 1) := by decide +kernel
theorem d_law_106 : decode b_law 106 = .ok (.aload_n 0, 1) := by decide +kernel
theorem d_law_107 : decode b_law 107 = .ok (.iload_n 3, 1) := by decide +kernel
theorem d_law_108 : decode b_law 108 = .ok (.iconst 1, 1) := by decide +kernel
theorem d_law_109 : decode b_law 109 = .ok (.iadd, 1) := by decide +kernel
theorem d_law_110 : decode b_law 110 = .ok (.iaload, 1) := by decide +kernel
theorem d_law_111 : decode b_law 111 = .ok (.invokevirtual 17, 3) := by decide +kernel
theorem d_law_114 : decode b_law 114 = .ok (.if_icmp .eq 238, 3) := by decide +kernel
theorem d_law_117 : decode b_law 117 = .ok (.iconst 0, 1) := by decide +kernel
theorem d_law_118 : decode b_law 118 = .ok (.ireturn, 1) := by decide +kernel
theorem d_law_119 : decode b_law 119 = .ok (.aload_n 1, 1) := by decide +kernel
theorem d_law_120 : decode b_law 120 = .ok (.invokevirtual 18, 3) := by decide +kernel
theorem d_law_123 : decode b_law 123 = .ok (.aload_n 2, 1) := by decide +kernel
theorem d_law_124 : decode b_law 124 = .ok (.invokevirtual 22, 3) := by decide +kernel
theorem d_law_127 : decode b_law 127 = .ok (.if_icmp .eq 225, 3) := by decide +kernel
theorem d_law_130 : decode b_law 130 = .ok (.iconst 0, 1) := by decide +kernel
theorem d_law_131 : decode b_law 131 = .ok (.ireturn, 1) := by decide +kernel
theorem d_law_132 : decode b_law 132 = .ok (.aload_n 1, 1) := by decide +kernel
theorem d_law_133 : decode b_law 133 = .ok (.invokevirtual 23, 3) := by decide +kernel
theorem d_law_136 : decode b_law 136 = .ok (.aload_n 2, 1) := by decide +kernel
theorem d_law_137 : decode b_law 137 = .ok (.invokevirtual 26, 3) := by decide +kernel
theorem d_law_140 : decode b_law 140 = .ok (.if_icmp .eq 212, 3) := by decide +kernel
theorem d_law_143 : decode b_law 143 = .ok (.iconst 0, 1) := by decide +kernel
theorem d_law_144 : decode b_law 144 = .ok (.ireturn, 1) := by decide +kernel
theorem d_law_145 : decode b_law 145 = .ok (.aload_n 1, 1) := by decide +kernel
theorem d_law_146 : decode b_law 146 = .ok (.invokevirtual 27, 3) := by decide +kernel
theorem d_law_149 : decode b_law 149 = .ok (.aload_n 2, 1) := by decide +kernel
theorem d_law_150 : decode b_law 150 = .ok (.invokevirtual 30, 3) := by decide +kernel
theorem d_law_153 : decode b_law 153 = .ok (.if_icmp .eq 199, 3) := by decide +kernel
theorem d_law_156 : decode b_law 156 = .ok (.iconst 0, 1) := by decide +kernel
theorem d_law_157 : decode b_law 157 = .ok (.ireturn, 1) := by decide +kernel
theorem d_law_158 : decode b_law 158 = .ok (.aload_n 1, 1) := by decide +kernel
theorem d_law_159 : decode b_law 159 = .ok (.aload_n 0, 1) := by decide +kernel
theorem d_law_160 : decode b_law 160 = .ok (.iload_n 3, 1) := by decide +kernel
theorem d_law_161 : decode b_law 161 = .ok (.iconst 1, 1) := by decide +kernel
theorem d_law_162 : decode b_law 162 = .ok (.iadd, 1) := by decide +kernel
theorem d_law_163 : decode b_law 163 = .ok (.iaload, 1) := by decide +kernel
theorem d_law_164 : decode b_law 164 = .ok (.invokevirtual 31, 3) := by decide +kernel
theorem d_law_167 : decode b_law 167 = .ok (.aload_n 2, 1) := by decide +kernel
theorem d_law_168 : decode b_law 168 = .ok (.aload_n 0, 1) := by decide +kernel
theorem d_law_169 : decode b_law 169 = .ok (.iload_n 3, 1) := by decide +kernel
theorem d_law_170 : decode b_law 170 = .ok (.iconst 1, 1) := by decide +kernel
theorem d_law_171 : decode b_law 171 = .ok (.iadd, 1) := by decide +kernel
theorem d_law_172 : decode b_law 172 = .ok (.iaload, 1) := by decide +kernel
theorem d_law_173 : decode b_law 173 = .ok (.invokevirtual 34, 3) := by decide +kernel
theorem d_law_176 : decode b_law 176 = .ok (.if_icmp .eq 176, 3) := by decide +kernel
theorem d_law_179 : decode b_law 179 = .ok (.iconst 0, 1) := by decide +kernel
theorem d_law_180 : decode b_law 180 = .ok (.ireturn, 1) := by decide +kernel
theorem d_law_181 : decode b_law 181 = .ok (.aload_n 1, 1) := by decide +kernel
theorem d_law_182 : decode b_law 182 = .ok (.invokevirtual 35, 3) := by decide +kernel
theorem d_law_185 : decode b_law 185 = .ok (.aload_n 2, 1) := by decide +kernel
theorem d_law_186 : decode b_law 186 = .ok (.invokevirtual 38, 3) := by decide +kernel
theorem d_law_189 : decode b_law 189 = .ok (.if_icmp .eq 163, 3) := by decide +kernel
theorem d_law_192 : decode b_law 192 = .ok (.iconst 0, 1) := by decide +kernel
theorem d_law_193 : decode b_law 193 = .ok (.ireturn, 1) := by decide +kernel
theorem d_law_194 : decode b_law 194 = .ok (.aload_n 1, 1) := by decide +kernel
theorem d_law_195 : decode b_law 195 = .ok (.aload_n 0, 1) := by decide +kernel
theorem d_law_196 : decode b_law 196 = .ok (.iload_n 3, 1) := by decide +kernel
theorem d_law_197 : decode b_law 197 = .ok (.iconst 1, 1) := by decide +kernel
theorem d_law_198 : decode b_law 198 = .ok (.iadd, 1) := by decide +kernel
theorem d_law_199 : decode b_law 199 = .ok (.iaload, 1) := by decide +kernel
theorem d_law_200 : decode b_law 200 = .ok (.aload_n 0, 1) := by decide +kernel
theorem d_law_201 : decode b_law 201 = .ok (.iload_n 3, 1) := by decide +kernel
theorem d_law_202 : decode b_law 202 = .ok (.iconst 2, 1) := by decide +kernel
theorem d_law_203 : decode b_law 203 = .ok (.iadd, 1) := by decide +kernel
theorem d_law_204 : decode b_law 204 = .ok (.iaload, 1) := by decide +kernel
theorem d_law_205 : decode b_law 205 = .ok (.invokevirtual 39, 3) := by decide +kernel
theorem d_law_208 : decode b_law 208 = .ok (.aload_n 2, 1) := by decide +kernel
theorem d_law_209 : decode b_law 209 = .ok (.aload_n 0, 1) := by decide +kernel
theorem d_law_210 : decode b_law 210 = .ok (.iload_n 3, 1) := by decide +kernel
theorem d_law_211 : decode b_law 211 = .ok (.iconst 1, 1) := by decide +kernel
theorem d_law_212 : decode b_law 212 = .ok (.iadd, 1) := by decide +kernel
theorem d_law_213 : decode b_law 213 = .ok (.iaload, 1) := by decide +kernel
theorem d_law_214 : decode b_law 214 = .ok (.aload_n 0, 1) := by decide +kernel
theorem d_law_215 : decode b_law 215 = .ok (.iload_n 3, 1) := by decide +kernel
theorem d_law_216 : decode b_law 216 = .ok (.iconst 2, 1) := by decide +kernel
theorem d_law_217 : decode b_law 217 = .ok (.iadd, 1) := by decide +kernel
theorem d_law_218 : decode b_law 218 = .ok (.iaload, 1) := by decide +kernel
theorem d_law_219 : decode b_law 219 = .ok (.invokevirtual 43, 3) := by decide +kernel
theorem d_law_222 : decode b_law 222 = .ok (.if_icmp .eq 130, 3) := by decide +kernel
theorem d_law_225 : decode b_law 225 = .ok (.iconst 0, 1) := by decide +kernel
theorem d_law_226 : decode b_law 226 = .ok (.ireturn, 1) := by decide +kernel
theorem d_law_227 : decode b_law 227 = .ok (.aload_n 1, 1) := by decide +kernel
theorem d_law_228 : decode b_law 228 = .ok (.aload_n 0, 1) := by decide +kernel
theorem d_law_229 : decode b_law 229 = .ok (.iload_n 3, 1) := by decide +kernel
theorem d_law_230 : decode b_law 230 = .ok (.iconst 1, 1) := by decide +kernel
theorem d_law_231 : decode b_law 231 = .ok (.iadd, 1) := by decide +kernel
theorem d_law_232 : decode b_law 232 = .ok (.iaload, 1) := by decide +kernel
theorem d_law_233 : decode b_law 233 = .ok (.invokevirtual 44, 3) := by decide +kernel
theorem d_law_236 : decode b_law 236 = .ok (.aload_n 2, 1) := by decide +kernel
theorem d_law_237 : decode b_law 237 = .ok (.aload_n 0, 1) := by decide +kernel
theorem d_law_238 : decode b_law 238 = .ok (.iload_n 3, 1) := by decide +kernel
theorem d_law_239 : decode b_law 239 = .ok (.iconst 1, 1) := by decide +kernel
theorem d_law_240 : decode b_law 240 = .ok (.iadd, 1) := by decide +kernel
theorem d_law_241 : decode b_law 241 = .ok (.iaload, 1) := by decide +kernel
theorem d_law_242 : decode b_law 242 = .ok (.invokevirtual 47, 3) := by decide +kernel
theorem d_law_245 : decode b_law 245 = .ok (.if_icmp .eq 107, 3) := by decide +kernel
theorem d_law_248 : decode b_law 248 = .ok (.iconst 0, 1) := by decide +kernel
theorem d_law_249 : decode b_law 249 = .ok (.ireturn, 1) := by decide +kernel
theorem d_law_250 : decode b_law 250 = .ok (.aload_n 1, 1) := by decide +kernel
theorem d_law_251 : decode b_law 251 = .ok (.aload_n 0, 1) := by decide +kernel
theorem d_law_252 : decode b_law 252 = .ok (.iload_n 3, 1) := by decide +kernel
theorem d_law_253 : decode b_law 253 = .ok (.iconst 1, 1) := by decide +kernel
theorem d_law_254 : decode b_law 254 = .ok (.iadd, 1) := by decide +kernel
theorem d_law_255 : decode b_law 255 = .ok (.iaload, 1) := by decide +kernel
theorem d_law_256 : decode b_law 256 = .ok (.aload_n 0, 1) := by decide +kernel
theorem d_law_257 : decode b_law 257 = .ok (.iload_n 3, 1) := by decide +kernel
theorem d_law_258 : decode b_law 258 = .ok (.iconst 2, 1) := by decide +kernel
theorem d_law_259 : decode b_law 259 = .ok (.iadd, 1) := by decide +kernel
theorem d_law_260 : decode b_law 260 = .ok (.iaload, 1) := by decide +kernel
theorem d_law_261 : decode b_law 261 = .ok (.invokevirtual 48, 3) := by decide +kernel
theorem d_law_264 : decode b_law 264 = .ok (.aload_n 2, 1) := by decide +kernel
theorem d_law_265 : decode b_law 265 = .ok (.aload_n 0, 1) := by decide +kernel
theorem d_law_266 : decode b_law 266 = .ok (.iload_n 3, 1) := by decide +kernel
theorem d_law_267 : decode b_law 267 = .ok (.iconst 1, 1) := by decide +kernel
theorem d_law_268 : decode b_law 268 = .ok (.iadd, 1) := by decide +kernel
theorem d_law_269 : decode b_law 269 = .ok (.iaload, 1) := by decide +kernel
theorem d_law_270 : decode b_law 270 = .ok (.aload_n 0, 1) := by decide +kernel
theorem d_law_271 : decode b_law 271 = .ok (.iload_n 3, 1) := by decide +kernel
theorem d_law_272 : decode b_law 272 = .ok (.iconst 2, 1) := by decide +kernel
theorem d_law_273 : decode b_law 273 = .ok (.iadd, 1) := by decide +kernel
theorem d_law_274 : decode b_law 274 = .ok (.iaload, 1) := by decide +kernel
theorem d_law_275 : decode b_law 275 = .ok (.invokevirtual 51, 3) := by decide +kernel
theorem d_law_278 : decode b_law 278 = .ok (.if_icmp .eq 74, 3) := by decide +kernel
theorem d_law_281 : decode b_law 281 = .ok (.iconst 0, 1) := by decide +kernel
theorem d_law_282 : decode b_law 282 = .ok (.ireturn, 1) := by decide +kernel
theorem d_law_283 : decode b_law 283 = .ok (.aload_n 1, 1) := by decide +kernel
theorem d_law_284 : decode b_law 284 = .ok (.aload_n 0, 1) := by decide +kernel
theorem d_law_285 : decode b_law 285 = .ok (.iload_n 3, 1) := by decide +kernel
theorem d_law_286 : decode b_law 286 = .ok (.iconst 1, 1) := by decide +kernel
theorem d_law_287 : decode b_law 287 = .ok (.iadd, 1) := by decide +kernel
theorem d_law_288 : decode b_law 288 = .ok (.iaload, 1) := by decide +kernel
theorem d_law_289 : decode b_law 289 = .ok (.invokevirtual 52, 3) := by decide +kernel
theorem d_law_292 : decode b_law 292 = .ok (.aload_n 2, 1) := by decide +kernel
theorem d_law_293 : decode b_law 293 = .ok (.aload_n 0, 1) := by decide +kernel
theorem d_law_294 : decode b_law 294 = .ok (.iload_n 3, 1) := by decide +kernel
theorem d_law_295 : decode b_law 295 = .ok (.iconst 1, 1) := by decide +kernel
theorem d_law_296 : decode b_law 296 = .ok (.iadd, 1) := by decide +kernel
theorem d_law_297 : decode b_law 297 = .ok (.iaload, 1) := by decide +kernel
theorem d_law_298 : decode b_law 298 = .ok (.invokevirtual 55, 3) := by decide +kernel
theorem d_law_301 : decode b_law 301 = .ok (.if_icmp .eq 51, 3) := by decide +kernel
theorem d_law_304 : decode b_law 304 = .ok (.iconst 0, 1) := by decide +kernel
theorem d_law_305 : decode b_law 305 = .ok (.ireturn, 1) := by decide +kernel
theorem d_law_306 : decode b_law 306 = .ok (.aload_n 1, 1) := by decide +kernel
theorem d_law_307 : decode b_law 307 = .ok (.aload_n 0, 1) := by decide +kernel
theorem d_law_308 : decode b_law 308 = .ok (.iload_n 3, 1) := by decide +kernel
theorem d_law_309 : decode b_law 309 = .ok (.iconst 1, 1) := by decide +kernel
theorem d_law_310 : decode b_law 310 = .ok (.iadd, 1) := by decide +kernel
theorem d_law_311 : decode b_law 311 = .ok (.iaload, 1) := by decide +kernel
theorem d_law_312 : decode b_law 312 = .ok (.invokevirtual 56, 3) := by decide +kernel
theorem d_law_315 : decode b_law 315 = .ok (.aload_n 2, 1) := by decide +kernel
theorem d_law_316 : decode b_law 316 = .ok (.aload_n 0, 1) := by decide +kernel
theorem d_law_317 : decode b_law 317 = .ok (.iload_n 3, 1) := by decide +kernel
theorem d_law_318 : decode b_law 318 = .ok (.iconst 1, 1) := by decide +kernel
theorem d_law_319 : decode b_law 319 = .ok (.iadd, 1) := by decide +kernel
theorem d_law_320 : decode b_law 320 = .ok (.iaload, 1) := by decide +kernel
theorem d_law_321 : decode b_law 321 = .ok (.invokevirtual 59, 3) := by decide +kernel
theorem d_law_324 : decode b_law 324 = .ok (.if_icmp .eq 28, 3) := by decide +kernel
theorem d_law_327 : decode b_law 327 = .ok (.iconst 0, 1) := by decide +kernel
theorem d_law_328 : decode b_law 328 = .ok (.ireturn, 1) := by decide +kernel
theorem d_law_329 : decode b_law 329 = .ok (.aload_n 1, 1) := by decide +kernel
theorem d_law_330 : decode b_law 330 = .ok (.aload_n 0, 1) := by decide +kernel
theorem d_law_331 : decode b_law 331 = .ok (.iload_n 3, 1) := by decide +kernel
theorem d_law_332 : decode b_law 332 = .ok (.iconst 1, 1) := by decide +kernel
theorem d_law_333 : decode b_law 333 = .ok (.iadd, 1) := by decide +kernel
theorem d_law_334 : decode b_law 334 = .ok (.iaload, 1) := by decide +kernel
theorem d_law_335 : decode b_law 335 = .ok (.invokevirtual 60, 3) := by decide +kernel
theorem d_law_338 : decode b_law 338 = .ok (.aload_n 2, 1) := by decide +kernel
theorem d_law_339 : decode b_law 339 = .ok (.aload_n 0, 1) := by decide +kernel
theorem d_law_340 : decode b_law 340 = .ok (.iload_n 3, 1) := by decide +kernel
theorem d_law_341 : decode b_law 341 = .ok (.iconst 1, 1) := by decide +kernel
theorem d_law_342 : decode b_law 342 = .ok (.iadd, 1) := by decide +kernel
theorem d_law_343 : decode b_law 343 = .ok (.iaload, 1) := by decide +kernel
theorem d_law_344 : decode b_law 344 = .ok (.invokevirtual 63, 3) := by decide +kernel
theorem d_law_347 : decode b_law 347 = .ok (.if_icmp .eq 5, 3) := by decide +kernel
theorem d_law_350 : decode b_law 350 = .ok (.iconst 0, 1) := by decide +kernel
theorem d_law_351 : decode b_law 351 = .ok (.ireturn, 1) := by decide +kernel
theorem d_law_352 : decode b_law 352 = .ok (.iinc 3 3, 3) := by decide +kernel
theorem d_law_355 : decode b_law 355 = .ok (.goto (-337), 3) := by decide +kernel
theorem d_law_358 : decode b_law 358 = .ok (.iconst 1, 1) := by decide +kernel
theorem d_law_359 : decode b_law 359 = .ok (.ireturn, 1) := by decide +kernel
def μ_law : ax_M := (b_law, 4, "DotConsoleLaw", ret, 12, 442, 49, 6112)
theorem law_gt {L i : Nat} {l3 : Int32} (h3 : l3 = nI i) (hL : L ≤ 1536) (h : L < i + 3) (hi : i ≤ L + 3) : Int32.ofNat L - 3 < l3 := by
  rw [h3, Int32.lt_iff_toInt_lt, nI_toInt (by omega)]
  have e : (Int32.ofNat L - 3).toInt = (L : Int) - 3 := by
    have := pk_sub_toInt (a := L) (b := 3) (by omega) (by omega)
    exact this
  rw [e]
  omega
theorem law_in {L i : Nat} {l3 : Int32} (h3 : l3 = nI i) (hL : L ≤ 1536) (h2 : i ≤ L + 3) (h : ¬ Int32.ofNat L - 3 < l3) : vp_in l3 L ∧ vp_in (l3 + 1) L ∧ vp_in (l3 + 2) L ∧ i + 3 ≤ L := by
  have hi : i + 3 ≤ L := by
    rcases Nat.lt_or_ge L (i + 3) with q | q
    · exact absurd (law_gt h3 hL q h2) h
    · exact q
  refine ⟨?_, ?_, ?_, hi⟩
  · rw [h3]; exact vp_in_nI (by omega) (by omega)
  · rw [h3, show nI i + 1 = nI (i + 1) from nI_add i 1]; exact vp_in_nI (by omega) (by omega)
  · rw [h3, show nI i + 2 = nI (i + 2) from nI_add i 2]; exact vp_in_nI (by omega) (by omega)
theorem km_law_13 : Cond.methodLink "DotConsoleLaw" 13 ⟨"DotConsole", "feed", "(I)I"⟩ ∈ ax_T := ax_mem (by decide +kernel) rfl
theorem km_law_17 : Cond.methodLink "DotConsoleLaw" 17 ⟨"DotConsoleModel", "feed", "(I)I"⟩ ∈ ax_T := ax_mem (by decide +kernel) rfl
theorem km_law_18 : Cond.methodLink "DotConsoleLaw" 18 ⟨"DotConsole", "add", "()I"⟩ ∈ ax_T := ax_mem (by decide +kernel) rfl
theorem km_law_22 : Cond.methodLink "DotConsoleLaw" 22 ⟨"DotConsoleModel", "add", "()I"⟩ ∈ ax_T := ax_mem (by decide +kernel) rfl
theorem km_law_23 : Cond.methodLink "DotConsoleLaw" 23 ⟨"DotConsole", "place", "()I"⟩ ∈ ax_T := ax_mem (by decide +kernel) rfl
theorem km_law_26 : Cond.methodLink "DotConsoleLaw" 26 ⟨"DotConsoleModel", "place", "()I"⟩ ∈ ax_T := ax_mem (by decide +kernel) rfl
theorem km_law_27 : Cond.methodLink "DotConsoleLaw" 27 ⟨"DotConsole", "seal", "()I"⟩ ∈ ax_T := ax_mem (by decide +kernel) rfl
theorem km_law_30 : Cond.methodLink "DotConsoleLaw" 30 ⟨"DotConsoleModel", "seal", "()I"⟩ ∈ ax_T := ax_mem (by decide +kernel) rfl
theorem km_law_31 : Cond.methodLink "DotConsoleLaw" 31 ⟨"DotConsole", "frame", "(I)I"⟩ ∈ ax_T := ax_mem (by decide +kernel) rfl
theorem km_law_34 : Cond.methodLink "DotConsoleLaw" 34 ⟨"DotConsoleModel", "frame", "(I)I"⟩ ∈ ax_T := ax_mem (by decide +kernel) rfl
theorem km_law_35 : Cond.methodLink "DotConsoleLaw" 35 ⟨"DotConsole", "restart", "()I"⟩ ∈ ax_T := ax_mem (by decide +kernel) rfl
theorem km_law_38 : Cond.methodLink "DotConsoleLaw" 38 ⟨"DotConsoleModel", "restart", "()I"⟩ ∈ ax_T := ax_mem (by decide +kernel) rfl
theorem km_law_39 : Cond.methodLink "DotConsoleLaw" 39 ⟨"DotConsole", "dot", "(II)I"⟩ ∈ ax_T := ax_mem (by decide +kernel) rfl
theorem km_law_43 : Cond.methodLink "DotConsoleLaw" 43 ⟨"DotConsoleModel", "dot", "(II)I"⟩ ∈ ax_T := ax_mem (by decide +kernel) rfl
theorem km_law_44 : Cond.methodLink "DotConsoleLaw" 44 ⟨"DotConsole", "value", "(I)I"⟩ ∈ ax_T := ax_mem (by decide +kernel) rfl
theorem km_law_47 : Cond.methodLink "DotConsoleLaw" 47 ⟨"DotConsoleModel", "value", "(I)I"⟩ ∈ ax_T := ax_mem (by decide +kernel) rfl
theorem km_law_48 : Cond.methodLink "DotConsoleLaw" 48 ⟨"DotConsole", "name", "(II)I"⟩ ∈ ax_T := ax_mem (by decide +kernel) rfl
theorem km_law_51 : Cond.methodLink "DotConsoleLaw" 51 ⟨"DotConsoleModel", "name", "(II)I"⟩ ∈ ax_T := ax_mem (by decide +kernel) rfl
theorem km_law_52 : Cond.methodLink "DotConsoleLaw" 52 ⟨"DotConsole", "cell", "(I)I"⟩ ∈ ax_T := ax_mem (by decide +kernel) rfl
theorem km_law_55 : Cond.methodLink "DotConsoleLaw" 55 ⟨"DotConsoleModel", "cell", "(I)I"⟩ ∈ ax_T := ax_mem (by decide +kernel) rfl
theorem km_law_56 : Cond.methodLink "DotConsoleLaw" 56 ⟨"DotConsole", "nodes", "(I)I"⟩ ∈ ax_T := ax_mem (by decide +kernel) rfl
theorem km_law_59 : Cond.methodLink "DotConsoleLaw" 59 ⟨"DotConsoleModel", "nodes", "(I)I"⟩ ∈ ax_T := ax_mem (by decide +kernel) rfl
theorem km_law_60 : Cond.methodLink "DotConsoleLaw" 60 ⟨"DotConsole", "count", "(I)I"⟩ ∈ ax_T := ax_mem (by decide +kernel) rfl
theorem km_law_63 : Cond.methodLink "DotConsoleLaw" 63 ⟨"DotConsoleModel", "count", "(I)I"⟩ ∈ ax_T := ax_mem (by decide +kernel) rfl
set_option maxHeartbeats 4000000 in
theorem law_loop {Rel : St → St → Prop} (hOK : LawOK Rel) {x : ax_X} {g : ax_G} {A : Nat → Prop} {Q : State → Prop} {b L : Nat} {xs : Nat → Int32} (hX : ax_XX x A b L xs) (hL : L ≤ 1536) (hend : ∀ (lv : List (Nat × Value)) (σ τ : St), AW x μ_law g A (wL g) (49, 6112) Q 359 lv [.int 1] (σ, τ)) :
    ∀ (n i : Nat) (l3 : Int32) (σ τ : St), L < n + i → i ≤ L + 3 → l3 = nI i → Rel σ τ → AW x μ_law g A (wL g) (49, 6112) Q 18 [(0, .ref b), (1, .ref (g.2.1 0)), (2, .ref (g.2.1 32)), (3, .int l3)] [] (σ, τ) := by
  obtain ⟨o_feed, o_add, o_place, o_seal, o_frame, o_restart, o_dot, o_value, o_name, o_cell, o_nodes, o_count⟩ := hOK
  intro n
  induction n with
  | zero =>
    intro i l3 σ τ h1 h2 h3 hR
    refine aw_iload_n (n := 19) d_law_18 rfl rfl 3 rfl ?_
    refine aw_aload_n (n := 20) d_law_19 rfl rfl 0 rfl ?_
    refine lw_slen (n := 21) hX d_law_20 rfl ?_
    refine aw_iconst (n := 22) (v := 3) d_law_21 rfl (by decide) ?_
    refine aw_isub (n := 23) d_law_22 rfl ?_
    refine aw_icmp_gt (n := 26) (t := 358) d_law_23 rfl (by decide) (fun c1 => ?_) (fun c1 => ?_)
    · refine aw_iconst (n := 359) (v := 1) d_law_358 rfl (by decide) ?_
      exact hend _ _ _
    · exact absurd (law_gt h3 hL (by omega) h2) c1
  | succ n ih =>
    intro i l3 σ τ h1 h2 h3 hR
    refine aw_iload_n (n := 19) d_law_18 rfl rfl 3 rfl ?_
    refine aw_aload_n (n := 20) d_law_19 rfl rfl 0 rfl ?_
    refine lw_slen (n := 21) hX d_law_20 rfl ?_
    refine aw_iconst (n := 22) (v := 3) d_law_21 rfl (by decide) ?_
    refine aw_isub (n := 23) d_law_22 rfl ?_
    refine aw_icmp_gt (n := 26) (t := 358) d_law_23 rfl (by decide) (fun c1 => ?_) (fun c1 => ?_)
    · refine aw_iconst (n := 359) (v := 1) d_law_358 rfl (by decide) ?_
      exact hend _ _ _
    obtain ⟨hi0, hi1, hi2, hin⟩ := law_in h3 hL h2 c1
    have step : ∀ (σ2 τ2 : St), Rel σ2 τ2 → AW x μ_law g A (wL g) (49, 6112) Q 352 [(0, .ref b), (1, .ref (g.2.1 0)), (2, .ref (g.2.1 32)), (3, .int l3)] [] (σ2, τ2) := by
      intro σ2 τ2 hR2
      obtain ⟨v, hv⟩ : ∃ v : Int32, l3 + 3 = v := ⟨_, rfl⟩
      refine aw_iinc (n := 355) (j := 3) (v := v) d_law_352 rfl rfl hv (by decide) rfl ?_
      refine aw_goto (t := 18) d_law_355 (by decide) ?_
      refine aw_sub [1, 2, 3, 0] rfl ?_
      exact ih (i + 3) v σ2 τ2 (by omega) (by omega) (by rw [← hv, h3]; exact nI_add i 3) hR2
    refine aw_aload_n (n := 27) d_law_26 rfl rfl 0 rfl ?_
    refine aw_iload_n (n := 28) d_law_27 rfl rfl 3 rfl ?_
    refine lw_sld (n := 29) hX hi0 d_law_28 rfl ?_
    refine aw_bipush (n := 31) (v := 15) d_law_29 rfl (by decide) ?_
    refine aw_iand (n := 32) d_law_31 rfl ?_
    refine aw_nm (fun u _ => ?_)
    by_cases c10 : u = 0
    · refine aw_tableIn (t := 96) (off := 64) d_law_32 (by rw [c10]; decide) (by rw [c10]; decide) (by first | (rw [c10]; done) | (rw [c10]; decide)) (by decide) ?_
      obtain ⟨N, rr, σ2, τ2, hJ, hM, hR2⟩ := o_feed σ τ (xs (l3 + 1).toNatClampNeg) hR
      refine aw_aload_n (n := 97) d_law_96 rfl rfl 1 rfl ?_
      refine aw_aload_n (n := 98) d_law_97 rfl rfl 0 rfl ?_
      refine aw_iload_n (n := 99) d_law_98 rfl rfl 3 rfl ?_
      refine aw_iconst (n := 100) (v := 1) d_law_99 rfl (by decide) ?_
      refine aw_iadd (n := 101) d_law_100 rfl ?_
      refine lw_sld (n := 102) hX hi1 d_law_101 rfl ?_
      refine lw_callC (n := 105) (As := [.int (xs (l3 + 1).toNatClampNeg)]) (rest := []) (c_Con_feed hJ) Y_Con_feed rfl km_law_13 (by decide) (by decide) rfl rfl (Nat.le_of_ble_eq_true rfl) d_law_102 rfl (fun r s1 hpC => ?_)
      obtain ⟨e1, e2⟩ := hpC
      subst e1; subst e2
      refine aw_aload_n (n := 106) d_law_105 rfl rfl 2 rfl ?_
      refine aw_aload_n (n := 107) d_law_106 rfl rfl 0 rfl ?_
      refine aw_iload_n (n := 108) d_law_107 rfl rfl 3 rfl ?_
      refine aw_iconst (n := 109) (v := 1) d_law_108 rfl (by decide) ?_
      refine aw_iadd (n := 110) d_law_109 rfl ?_
      refine lw_sld (n := 111) hX hi1 d_law_110 rfl ?_
      refine lw_callM (n := 114) (As := [.int (xs (l3 + 1).toNatClampNeg)]) (rest := [.int r]) (c_Mod_feed hM) Y_Mod_feed rfl km_law_17 (by decide) (by decide) rfl rfl (Nat.le_of_ble_eq_true rfl) d_law_111 rfl (fun r2 s2 hpM => ?_)
      obtain ⟨e1, e2⟩ := hpM
      subst e1; subst e2
      refine aw_icmp_eq (n := 117) (t := 352) d_law_114 rfl (by decide) (fun _ => ?_) (fun c9 => absurd rfl c9)
      exact step _ _ hR2
    by_cases c11 : u = 1
    · refine aw_tableIn (t := 119) (off := 87) d_law_32 (by rw [c11]; decide) (by rw [c11]; decide) (by first | (rw [c11]; done) | (rw [c11]; decide)) (by decide) ?_
      obtain ⟨N, rr, σ2, τ2, hJ, hM, hR2⟩ := o_add σ τ hR
      refine aw_aload_n (n := 120) d_law_119 rfl rfl 1 rfl ?_
      refine lw_callC (n := 123) (As := []) (rest := []) (c_Con_add hJ) Y_Con_add rfl km_law_18 (by decide) (by decide) rfl rfl (Nat.le_of_ble_eq_true rfl) d_law_120 rfl (fun r s1 hpC => ?_)
      obtain ⟨e1, e2⟩ := hpC
      subst e1; subst e2
      refine aw_aload_n (n := 124) d_law_123 rfl rfl 2 rfl ?_
      refine lw_callM (n := 127) (As := []) (rest := [.int r]) (c_Mod_add hM) Y_Mod_add rfl km_law_22 (by decide) (by decide) rfl rfl (Nat.le_of_ble_eq_true rfl) d_law_124 rfl (fun r2 s2 hpM => ?_)
      obtain ⟨e1, e2⟩ := hpM
      subst e1; subst e2
      refine aw_icmp_eq (n := 130) (t := 352) d_law_127 rfl (by decide) (fun _ => ?_) (fun c9 => absurd rfl c9)
      exact step _ _ hR2
    by_cases c12 : u = 2
    · refine aw_tableIn (t := 132) (off := 100) d_law_32 (by rw [c12]; decide) (by rw [c12]; decide) (by first | (rw [c12]; done) | (rw [c12]; decide)) (by decide) ?_
      obtain ⟨N, rr, σ2, τ2, hJ, hM, hR2⟩ := o_place σ τ hR
      refine aw_aload_n (n := 133) d_law_132 rfl rfl 1 rfl ?_
      refine lw_callC (n := 136) (As := []) (rest := []) (c_Con_place hJ) Y_Con_place rfl km_law_23 (by decide) (by decide) rfl rfl (Nat.le_of_ble_eq_true rfl) d_law_133 rfl (fun r s1 hpC => ?_)
      obtain ⟨e1, e2⟩ := hpC
      subst e1; subst e2
      refine aw_aload_n (n := 137) d_law_136 rfl rfl 2 rfl ?_
      refine lw_callM (n := 140) (As := []) (rest := [.int r]) (c_Mod_place hM) Y_Mod_place rfl km_law_26 (by decide) (by decide) rfl rfl (Nat.le_of_ble_eq_true rfl) d_law_137 rfl (fun r2 s2 hpM => ?_)
      obtain ⟨e1, e2⟩ := hpM
      subst e1; subst e2
      refine aw_icmp_eq (n := 143) (t := 352) d_law_140 rfl (by decide) (fun _ => ?_) (fun c9 => absurd rfl c9)
      exact step _ _ hR2
    by_cases c13 : u = 3
    · refine aw_tableIn (t := 145) (off := 113) d_law_32 (by rw [c13]; decide) (by rw [c13]; decide) (by first | (rw [c13]; done) | (rw [c13]; decide)) (by decide) ?_
      obtain ⟨N, rr, σ2, τ2, hJ, hM, hR2⟩ := o_seal σ τ hR
      refine aw_aload_n (n := 146) d_law_145 rfl rfl 1 rfl ?_
      refine lw_callC (n := 149) (As := []) (rest := []) (c_Con_seal hJ) Y_Con_seal rfl km_law_27 (by decide) (by decide) rfl rfl (Nat.le_of_ble_eq_true rfl) d_law_146 rfl (fun r s1 hpC => ?_)
      obtain ⟨e1, e2⟩ := hpC
      subst e1; subst e2
      refine aw_aload_n (n := 150) d_law_149 rfl rfl 2 rfl ?_
      refine lw_callM (n := 153) (As := []) (rest := [.int r]) (c_Mod_seal hM) Y_Mod_seal rfl km_law_30 (by decide) (by decide) rfl rfl (Nat.le_of_ble_eq_true rfl) d_law_150 rfl (fun r2 s2 hpM => ?_)
      obtain ⟨e1, e2⟩ := hpM
      subst e1; subst e2
      refine aw_icmp_eq (n := 156) (t := 352) d_law_153 rfl (by decide) (fun _ => ?_) (fun c9 => absurd rfl c9)
      exact step _ _ hR2
    by_cases c14 : u = 4
    · refine aw_tableIn (t := 158) (off := 126) d_law_32 (by rw [c14]; decide) (by rw [c14]; decide) (by first | (rw [c14]; done) | (rw [c14]; decide)) (by decide) ?_
      obtain ⟨N, rr, σ2, τ2, hJ, hM, hR2⟩ := o_frame σ τ (xs (l3 + 1).toNatClampNeg) hR
      refine aw_aload_n (n := 159) d_law_158 rfl rfl 1 rfl ?_
      refine aw_aload_n (n := 160) d_law_159 rfl rfl 0 rfl ?_
      refine aw_iload_n (n := 161) d_law_160 rfl rfl 3 rfl ?_
      refine aw_iconst (n := 162) (v := 1) d_law_161 rfl (by decide) ?_
      refine aw_iadd (n := 163) d_law_162 rfl ?_
      refine lw_sld (n := 164) hX hi1 d_law_163 rfl ?_
      refine lw_callC (n := 167) (As := [.int (xs (l3 + 1).toNatClampNeg)]) (rest := []) (c_Con_frame hJ) Y_Con_frame rfl km_law_31 (by decide) (by decide) rfl rfl (Nat.le_of_ble_eq_true rfl) d_law_164 rfl (fun r s1 hpC => ?_)
      obtain ⟨e1, e2⟩ := hpC
      subst e1; subst e2
      refine aw_aload_n (n := 168) d_law_167 rfl rfl 2 rfl ?_
      refine aw_aload_n (n := 169) d_law_168 rfl rfl 0 rfl ?_
      refine aw_iload_n (n := 170) d_law_169 rfl rfl 3 rfl ?_
      refine aw_iconst (n := 171) (v := 1) d_law_170 rfl (by decide) ?_
      refine aw_iadd (n := 172) d_law_171 rfl ?_
      refine lw_sld (n := 173) hX hi1 d_law_172 rfl ?_
      refine lw_callM (n := 176) (As := [.int (xs (l3 + 1).toNatClampNeg)]) (rest := [.int r]) (c_Mod_frame hM) Y_Mod_frame rfl km_law_34 (by decide) (by decide) rfl rfl (Nat.le_of_ble_eq_true rfl) d_law_173 rfl (fun r2 s2 hpM => ?_)
      obtain ⟨e1, e2⟩ := hpM
      subst e1; subst e2
      refine aw_icmp_eq (n := 179) (t := 352) d_law_176 rfl (by decide) (fun _ => ?_) (fun c9 => absurd rfl c9)
      exact step _ _ hR2
    by_cases c15 : u = 5
    · refine aw_tableIn (t := 181) (off := 149) d_law_32 (by rw [c15]; decide) (by rw [c15]; decide) (by first | (rw [c15]; done) | (rw [c15]; decide)) (by decide) ?_
      obtain ⟨N, rr, σ2, τ2, hJ, hM, hR2⟩ := o_restart σ τ hR
      refine aw_aload_n (n := 182) d_law_181 rfl rfl 1 rfl ?_
      refine lw_callC (n := 185) (As := []) (rest := []) (c_Con_restart hJ) Y_Con_restart rfl km_law_35 (by decide) (by decide) rfl rfl (Nat.le_of_ble_eq_true rfl) d_law_182 rfl (fun r s1 hpC => ?_)
      obtain ⟨e1, e2⟩ := hpC
      subst e1; subst e2
      refine aw_aload_n (n := 186) d_law_185 rfl rfl 2 rfl ?_
      refine lw_callM (n := 189) (As := []) (rest := [.int r]) (c_Mod_restart hM) Y_Mod_restart rfl km_law_38 (by decide) (by decide) rfl rfl (Nat.le_of_ble_eq_true rfl) d_law_186 rfl (fun r2 s2 hpM => ?_)
      obtain ⟨e1, e2⟩ := hpM
      subst e1; subst e2
      refine aw_icmp_eq (n := 192) (t := 352) d_law_189 rfl (by decide) (fun _ => ?_) (fun c9 => absurd rfl c9)
      exact step _ _ hR2
    by_cases c16 : u = 6
    · refine aw_tableIn (t := 194) (off := 162) d_law_32 (by rw [c16]; decide) (by rw [c16]; decide) (by first | (rw [c16]; done) | (rw [c16]; decide)) (by decide) ?_
      obtain ⟨N, rr, σ2, τ2, hJ, hM, hR2⟩ := o_dot σ τ (xs (l3 + 1).toNatClampNeg) (xs (l3 + 2).toNatClampNeg) hR
      refine aw_aload_n (n := 195) d_law_194 rfl rfl 1 rfl ?_
      refine aw_aload_n (n := 196) d_law_195 rfl rfl 0 rfl ?_
      refine aw_iload_n (n := 197) d_law_196 rfl rfl 3 rfl ?_
      refine aw_iconst (n := 198) (v := 1) d_law_197 rfl (by decide) ?_
      refine aw_iadd (n := 199) d_law_198 rfl ?_
      refine lw_sld (n := 200) hX hi1 d_law_199 rfl ?_
      refine aw_aload_n (n := 201) d_law_200 rfl rfl 0 rfl ?_
      refine aw_iload_n (n := 202) d_law_201 rfl rfl 3 rfl ?_
      refine aw_iconst (n := 203) (v := 2) d_law_202 rfl (by decide) ?_
      refine aw_iadd (n := 204) d_law_203 rfl ?_
      refine lw_sld (n := 205) hX hi2 d_law_204 rfl ?_
      refine lw_callC (n := 208) (As := [.int (xs (l3 + 1).toNatClampNeg), .int (xs (l3 + 2).toNatClampNeg)]) (rest := []) (c_Con_dot hJ) Y_Con_dot rfl km_law_39 (by decide) (by decide) rfl rfl (Nat.le_of_ble_eq_true rfl) d_law_205 rfl (fun r s1 hpC => ?_)
      obtain ⟨e1, e2⟩ := hpC
      subst e1; subst e2
      refine aw_aload_n (n := 209) d_law_208 rfl rfl 2 rfl ?_
      refine aw_aload_n (n := 210) d_law_209 rfl rfl 0 rfl ?_
      refine aw_iload_n (n := 211) d_law_210 rfl rfl 3 rfl ?_
      refine aw_iconst (n := 212) (v := 1) d_law_211 rfl (by decide) ?_
      refine aw_iadd (n := 213) d_law_212 rfl ?_
      refine lw_sld (n := 214) hX hi1 d_law_213 rfl ?_
      refine aw_aload_n (n := 215) d_law_214 rfl rfl 0 rfl ?_
      refine aw_iload_n (n := 216) d_law_215 rfl rfl 3 rfl ?_
      refine aw_iconst (n := 217) (v := 2) d_law_216 rfl (by decide) ?_
      refine aw_iadd (n := 218) d_law_217 rfl ?_
      refine lw_sld (n := 219) hX hi2 d_law_218 rfl ?_
      refine lw_callM (n := 222) (As := [.int (xs (l3 + 1).toNatClampNeg), .int (xs (l3 + 2).toNatClampNeg)]) (rest := [.int r]) (c_Mod_dot hM) Y_Mod_dot rfl km_law_43 (by decide) (by decide) rfl rfl (Nat.le_of_ble_eq_true rfl) d_law_219 rfl (fun r2 s2 hpM => ?_)
      obtain ⟨e1, e2⟩ := hpM
      subst e1; subst e2
      refine aw_icmp_eq (n := 225) (t := 352) d_law_222 rfl (by decide) (fun _ => ?_) (fun c9 => absurd rfl c9)
      exact step _ _ hR2
    by_cases c17 : u = 7
    · refine aw_tableIn (t := 227) (off := 195) d_law_32 (by rw [c17]; decide) (by rw [c17]; decide) (by first | (rw [c17]; done) | (rw [c17]; decide)) (by decide) ?_
      obtain ⟨N, rr, σ2, τ2, hJ, hM, hR2⟩ := o_value σ τ (xs (l3 + 1).toNatClampNeg) hR
      refine aw_aload_n (n := 228) d_law_227 rfl rfl 1 rfl ?_
      refine aw_aload_n (n := 229) d_law_228 rfl rfl 0 rfl ?_
      refine aw_iload_n (n := 230) d_law_229 rfl rfl 3 rfl ?_
      refine aw_iconst (n := 231) (v := 1) d_law_230 rfl (by decide) ?_
      refine aw_iadd (n := 232) d_law_231 rfl ?_
      refine lw_sld (n := 233) hX hi1 d_law_232 rfl ?_
      refine lw_callC (n := 236) (As := [.int (xs (l3 + 1).toNatClampNeg)]) (rest := []) (c_Con_value hJ) Y_Con_value rfl km_law_44 (by decide) (by decide) rfl rfl (Nat.le_of_ble_eq_true rfl) d_law_233 rfl (fun r s1 hpC => ?_)
      obtain ⟨e1, e2⟩ := hpC
      subst e1; subst e2
      refine aw_aload_n (n := 237) d_law_236 rfl rfl 2 rfl ?_
      refine aw_aload_n (n := 238) d_law_237 rfl rfl 0 rfl ?_
      refine aw_iload_n (n := 239) d_law_238 rfl rfl 3 rfl ?_
      refine aw_iconst (n := 240) (v := 1) d_law_239 rfl (by decide) ?_
      refine aw_iadd (n := 241) d_law_240 rfl ?_
      refine lw_sld (n := 242) hX hi1 d_law_241 rfl ?_
      refine lw_callM (n := 245) (As := [.int (xs (l3 + 1).toNatClampNeg)]) (rest := [.int r]) (c_Mod_value hM) Y_Mod_value rfl km_law_47 (by decide) (by decide) rfl rfl (Nat.le_of_ble_eq_true rfl) d_law_242 rfl (fun r2 s2 hpM => ?_)
      obtain ⟨e1, e2⟩ := hpM
      subst e1; subst e2
      refine aw_icmp_eq (n := 248) (t := 352) d_law_245 rfl (by decide) (fun _ => ?_) (fun c9 => absurd rfl c9)
      exact step _ _ hR2
    by_cases c18 : u = 8
    · refine aw_tableIn (t := 250) (off := 218) d_law_32 (by rw [c18]; decide) (by rw [c18]; decide) (by first | (rw [c18]; done) | (rw [c18]; decide)) (by decide) ?_
      obtain ⟨N, rr, σ2, τ2, hJ, hM, hR2⟩ := o_name σ τ (xs (l3 + 1).toNatClampNeg) (xs (l3 + 2).toNatClampNeg) hR
      refine aw_aload_n (n := 251) d_law_250 rfl rfl 1 rfl ?_
      refine aw_aload_n (n := 252) d_law_251 rfl rfl 0 rfl ?_
      refine aw_iload_n (n := 253) d_law_252 rfl rfl 3 rfl ?_
      refine aw_iconst (n := 254) (v := 1) d_law_253 rfl (by decide) ?_
      refine aw_iadd (n := 255) d_law_254 rfl ?_
      refine lw_sld (n := 256) hX hi1 d_law_255 rfl ?_
      refine aw_aload_n (n := 257) d_law_256 rfl rfl 0 rfl ?_
      refine aw_iload_n (n := 258) d_law_257 rfl rfl 3 rfl ?_
      refine aw_iconst (n := 259) (v := 2) d_law_258 rfl (by decide) ?_
      refine aw_iadd (n := 260) d_law_259 rfl ?_
      refine lw_sld (n := 261) hX hi2 d_law_260 rfl ?_
      refine lw_callC (n := 264) (As := [.int (xs (l3 + 1).toNatClampNeg), .int (xs (l3 + 2).toNatClampNeg)]) (rest := []) (c_Con_name hJ) Y_Con_name rfl km_law_48 (by decide) (by decide) rfl rfl (Nat.le_of_ble_eq_true rfl) d_law_261 rfl (fun r s1 hpC => ?_)
      obtain ⟨e1, e2⟩ := hpC
      subst e1; subst e2
      refine aw_aload_n (n := 265) d_law_264 rfl rfl 2 rfl ?_
      refine aw_aload_n (n := 266) d_law_265 rfl rfl 0 rfl ?_
      refine aw_iload_n (n := 267) d_law_266 rfl rfl 3 rfl ?_
      refine aw_iconst (n := 268) (v := 1) d_law_267 rfl (by decide) ?_
      refine aw_iadd (n := 269) d_law_268 rfl ?_
      refine lw_sld (n := 270) hX hi1 d_law_269 rfl ?_
      refine aw_aload_n (n := 271) d_law_270 rfl rfl 0 rfl ?_
      refine aw_iload_n (n := 272) d_law_271 rfl rfl 3 rfl ?_
      refine aw_iconst (n := 273) (v := 2) d_law_272 rfl (by decide) ?_
      refine aw_iadd (n := 274) d_law_273 rfl ?_
      refine lw_sld (n := 275) hX hi2 d_law_274 rfl ?_
      refine lw_callM (n := 278) (As := [.int (xs (l3 + 1).toNatClampNeg), .int (xs (l3 + 2).toNatClampNeg)]) (rest := [.int r]) (c_Mod_name hM) Y_Mod_name rfl km_law_51 (by decide) (by decide) rfl rfl (Nat.le_of_ble_eq_true rfl) d_law_275 rfl (fun r2 s2 hpM => ?_)
      obtain ⟨e1, e2⟩ := hpM
      subst e1; subst e2
      refine aw_icmp_eq (n := 281) (t := 352) d_law_278 rfl (by decide) (fun _ => ?_) (fun c9 => absurd rfl c9)
      exact step _ _ hR2
    by_cases c19 : u = 9
    · refine aw_tableIn (t := 283) (off := 251) d_law_32 (by rw [c19]; decide) (by rw [c19]; decide) (by first | (rw [c19]; done) | (rw [c19]; decide)) (by decide) ?_
      obtain ⟨N, rr, σ2, τ2, hJ, hM, hR2⟩ := o_cell σ τ (xs (l3 + 1).toNatClampNeg) hR
      refine aw_aload_n (n := 284) d_law_283 rfl rfl 1 rfl ?_
      refine aw_aload_n (n := 285) d_law_284 rfl rfl 0 rfl ?_
      refine aw_iload_n (n := 286) d_law_285 rfl rfl 3 rfl ?_
      refine aw_iconst (n := 287) (v := 1) d_law_286 rfl (by decide) ?_
      refine aw_iadd (n := 288) d_law_287 rfl ?_
      refine lw_sld (n := 289) hX hi1 d_law_288 rfl ?_
      refine lw_callC (n := 292) (As := [.int (xs (l3 + 1).toNatClampNeg)]) (rest := []) (c_Con_cell hJ) Y_Con_cell rfl km_law_52 (by decide) (by decide) rfl rfl (Nat.le_of_ble_eq_true rfl) d_law_289 rfl (fun r s1 hpC => ?_)
      obtain ⟨e1, e2⟩ := hpC
      subst e1; subst e2
      refine aw_aload_n (n := 293) d_law_292 rfl rfl 2 rfl ?_
      refine aw_aload_n (n := 294) d_law_293 rfl rfl 0 rfl ?_
      refine aw_iload_n (n := 295) d_law_294 rfl rfl 3 rfl ?_
      refine aw_iconst (n := 296) (v := 1) d_law_295 rfl (by decide) ?_
      refine aw_iadd (n := 297) d_law_296 rfl ?_
      refine lw_sld (n := 298) hX hi1 d_law_297 rfl ?_
      refine lw_callM (n := 301) (As := [.int (xs (l3 + 1).toNatClampNeg)]) (rest := [.int r]) (c_Mod_cell hM) Y_Mod_cell rfl km_law_55 (by decide) (by decide) rfl rfl (Nat.le_of_ble_eq_true rfl) d_law_298 rfl (fun r2 s2 hpM => ?_)
      obtain ⟨e1, e2⟩ := hpM
      subst e1; subst e2
      refine aw_icmp_eq (n := 304) (t := 352) d_law_301 rfl (by decide) (fun _ => ?_) (fun c9 => absurd rfl c9)
      exact step _ _ hR2
    by_cases c20 : u = 10
    · refine aw_tableIn (t := 306) (off := 274) d_law_32 (by rw [c20]; decide) (by rw [c20]; decide) (by first | (rw [c20]; done) | (rw [c20]; decide)) (by decide) ?_
      obtain ⟨N, rr, σ2, τ2, hJ, hM, hR2⟩ := o_nodes σ τ (xs (l3 + 1).toNatClampNeg) hR
      refine aw_aload_n (n := 307) d_law_306 rfl rfl 1 rfl ?_
      refine aw_aload_n (n := 308) d_law_307 rfl rfl 0 rfl ?_
      refine aw_iload_n (n := 309) d_law_308 rfl rfl 3 rfl ?_
      refine aw_iconst (n := 310) (v := 1) d_law_309 rfl (by decide) ?_
      refine aw_iadd (n := 311) d_law_310 rfl ?_
      refine lw_sld (n := 312) hX hi1 d_law_311 rfl ?_
      refine lw_callC (n := 315) (As := [.int (xs (l3 + 1).toNatClampNeg)]) (rest := []) (c_Con_nodes hJ) Y_Con_nodes rfl km_law_56 (by decide) (by decide) rfl rfl (Nat.le_of_ble_eq_true rfl) d_law_312 rfl (fun r s1 hpC => ?_)
      obtain ⟨e1, e2⟩ := hpC
      subst e1; subst e2
      refine aw_aload_n (n := 316) d_law_315 rfl rfl 2 rfl ?_
      refine aw_aload_n (n := 317) d_law_316 rfl rfl 0 rfl ?_
      refine aw_iload_n (n := 318) d_law_317 rfl rfl 3 rfl ?_
      refine aw_iconst (n := 319) (v := 1) d_law_318 rfl (by decide) ?_
      refine aw_iadd (n := 320) d_law_319 rfl ?_
      refine lw_sld (n := 321) hX hi1 d_law_320 rfl ?_
      refine lw_callM (n := 324) (As := [.int (xs (l3 + 1).toNatClampNeg)]) (rest := [.int r]) (c_Mod_nodes hM) Y_Mod_nodes rfl km_law_59 (by decide) (by decide) rfl rfl (Nat.le_of_ble_eq_true rfl) d_law_321 rfl (fun r2 s2 hpM => ?_)
      obtain ⟨e1, e2⟩ := hpM
      subst e1; subst e2
      refine aw_icmp_eq (n := 327) (t := 352) d_law_324 rfl (by decide) (fun _ => ?_) (fun c9 => absurd rfl c9)
      exact step _ _ hR2
    by_cases c21 : u = 11
    · refine aw_tableIn (t := 329) (off := 297) d_law_32 (by rw [c21]; decide) (by rw [c21]; decide) (by first | (rw [c21]; done) | (rw [c21]; decide)) (by decide) ?_
      obtain ⟨N, rr, σ2, τ2, hJ, hM, hR2⟩ := o_count σ τ (xs (l3 + 1).toNatClampNeg) hR
      refine aw_aload_n (n := 330) d_law_329 rfl rfl 1 rfl ?_
      refine aw_aload_n (n := 331) d_law_330 rfl rfl 0 rfl ?_
      refine aw_iload_n (n := 332) d_law_331 rfl rfl 3 rfl ?_
      refine aw_iconst (n := 333) (v := 1) d_law_332 rfl (by decide) ?_
      refine aw_iadd (n := 334) d_law_333 rfl ?_
      refine lw_sld (n := 335) hX hi1 d_law_334 rfl ?_
      refine lw_callC (n := 338) (As := [.int (xs (l3 + 1).toNatClampNeg)]) (rest := []) (c_Con_count hJ) Y_Con_count rfl km_law_60 (by decide) (by decide) rfl rfl (Nat.le_of_ble_eq_true rfl) d_law_335 rfl (fun r s1 hpC => ?_)
      obtain ⟨e1, e2⟩ := hpC
      subst e1; subst e2
      refine aw_aload_n (n := 339) d_law_338 rfl rfl 2 rfl ?_
      refine aw_aload_n (n := 340) d_law_339 rfl rfl 0 rfl ?_
      refine aw_iload_n (n := 341) d_law_340 rfl rfl 3 rfl ?_
      refine aw_iconst (n := 342) (v := 1) d_law_341 rfl (by decide) ?_
      refine aw_iadd (n := 343) d_law_342 rfl ?_
      refine lw_sld (n := 344) hX hi1 d_law_343 rfl ?_
      refine lw_callM (n := 347) (As := [.int (xs (l3 + 1).toNatClampNeg)]) (rest := [.int r]) (c_Mod_count hM) Y_Mod_count rfl km_law_63 (by decide) (by decide) rfl rfl (Nat.le_of_ble_eq_true rfl) d_law_344 rfl (fun r2 s2 hpM => ?_)
      obtain ⟨e1, e2⟩ := hpM
      subst e1; subst e2
      refine aw_icmp_eq (n := 350) (t := 352) d_law_347 rfl (by decide) (fun _ => ?_) (fun c9 => absurd rfl c9)
      exact step _ _ hR2
    have q0 := lv_neT (a := 0) c10 (by decide)
    have q1 := lv_neT (a := 1) c11 (by decide)
    have q2 := lv_neT (a := 2) c12 (by decide)
    have q3 := lv_neT (a := 3) c13 (by decide)
    have q4 := lv_neT (a := 4) c14 (by decide)
    have q5 := lv_neT (a := 5) c15 (by decide)
    have q6 := lv_neT (a := 6) c16 (by decide)
    have q7 := lv_neT (a := 7) c17 (by decide)
    have q8 := lv_neT (a := 8) c18 (by decide)
    have q9 := lv_neT (a := 9) c19 (by decide)
    have q10 := lv_neT (a := 10) c20 (by decide)
    have q11 := lv_neT (a := 11) c21 (by decide)
    refine aw_tableOut (t := 352) d_law_32 (by omega) (by decide) ?_
    exact step _ _ hR
