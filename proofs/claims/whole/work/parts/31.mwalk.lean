/-! WALKED: Mod_cut, Mod_wants, Mod_relation, Mod_level. Printed by wip/whole/build.py. -/
abbrev b_Mod_cut : ByteArray := prog_10_method_5_code
def y_Mod_cut : MethodName := ⟨"DotConsoleModel", "cut", "()V"⟩
theorem d_Mod_cut_0 : decode b_Mod_cut 0 = .ok (.iconst 0, 1) := by decide +kernel
theorem d_Mod_cut_1 : decode b_Mod_cut 1 = .ok (.istore_n 1, 1) := by decide +kernel
theorem d_Mod_cut_2 : decode b_Mod_cut 2 = .ok (.iconst 0, 1) := by decide +kernel
theorem d_Mod_cut_3 : decode b_Mod_cut 3 = .ok (.istore_n 2, 1) := by decide +kernel
theorem d_Mod_cut_4 : decode b_Mod_cut 4 = .ok (.aload_n 0, 1) := by decide +kernel
theorem d_Mod_cut_5 : decode b_Mod_cut 5 = .ok (.getfield 69, 3) := by decide +kernel
theorem d_Mod_cut_8 : decode b_Mod_cut 8 = .ok (.istore_n 3, 1) := by decide +kernel
theorem d_Mod_cut_9 : decode b_Mod_cut 9 = .ok (.iconst 1, 1) := by decide +kernel
theorem d_Mod_cut_10 : decode b_Mod_cut 10 = .ok (.istore 4, 2) := by decide +kernel
theorem d_Mod_cut_12 : decode b_Mod_cut 12 = .ok (.iload 4, 2) := by decide +kernel
theorem d_Mod_cut_14 : decode b_Mod_cut 14 = .ok (.ifCond .eq 303, 3) := by decide +kernel
theorem d_Mod_cut_17 : decode b_Mod_cut 17 = .ok (.iload_n 2, 1) := by decide +kernel
theorem d_Mod_cut_18 : decode b_Mod_cut 18 = .ok (.aload_n 0, 1) := by decide +kernel
theorem d_Mod_cut_19 : decode b_Mod_cut 19 = .ok (.getfield 66, 3) := by decide +kernel
theorem d_Mod_cut_22 : decode b_Mod_cut 22 = .ok (.if_icmp .ge 20, 3) := by decide +kernel
theorem d_Mod_cut_25 : decode b_Mod_cut 25 = .ok (.aload_n 0, 1) := by decide +kernel
theorem d_Mod_cut_26 : decode b_Mod_cut 26 = .ok (.getfield 7, 3) := by decide +kernel
theorem d_Mod_cut_29 : decode b_Mod_cut 29 = .ok (.iload_n 2, 1) := by decide +kernel
theorem d_Mod_cut_30 : decode b_Mod_cut 30 = .ok (.caload, 1) := by decide +kernel
theorem d_Mod_cut_31 : decode b_Mod_cut 31 = .ok (.bipush 32, 2) := by decide +kernel
theorem d_Mod_cut_33 : decode b_Mod_cut 33 = .ok (.if_icmp .ne 9, 3) := by decide +kernel
theorem d_Mod_cut_36 : decode b_Mod_cut 36 = .ok (.iinc 2 1, 3) := by decide +kernel
theorem d_Mod_cut_39 : decode b_Mod_cut 39 = .ok (.goto (-22), 3) := by decide +kernel
theorem d_Mod_cut_42 : decode b_Mod_cut 42 = .ok (.iload_n 2, 1) := by decide +kernel
theorem d_Mod_cut_43 : decode b_Mod_cut 43 = .ok (.aload_n 0, 1) := by decide +kernel
theorem d_Mod_cut_44 : decode b_Mod_cut 44 = .ok (.getfield 66, 3) := by decide +kernel
theorem d_Mod_cut_47 : decode b_Mod_cut 47 = .ok (.if_icmp .lt 6, 3) := by decide +kernel
theorem d_Mod_cut_50 : decode b_Mod_cut 50 = .ok (.goto 267, 3) := by decide +kernel
theorem d_Mod_cut_53 : decode b_Mod_cut 53 = .ok (.iload_n 2, 1) := by decide +kernel
theorem d_Mod_cut_54 : decode b_Mod_cut 54 = .ok (.istore 5, 2) := by decide +kernel
theorem d_Mod_cut_56 : decode b_Mod_cut 56 = .ok (.iconst 0, 1) := by decide +kernel
theorem d_Mod_cut_57 : decode b_Mod_cut 57 = .ok (.istore 6, 2) := by decide +kernel
theorem d_Mod_cut_59 : decode b_Mod_cut 59 = .ok (.iconst 0, 1) := by decide +kernel
theorem d_Mod_cut_60 : decode b_Mod_cut 60 = .ok (.istore 7, 2) := by decide +kernel
theorem d_Mod_cut_62 : decode b_Mod_cut 62 = .ok (.aload_n 0, 1) := by decide +kernel
theorem d_Mod_cut_63 : decode b_Mod_cut 63 = .ok (.iload_n 2, 1) := by decide +kernel
theorem d_Mod_cut_64 : decode b_Mod_cut 64 = .ok (.invokevirtual 72, 3) := by decide +kernel
theorem d_Mod_cut_67 : decode b_Mod_cut 67 = .ok (.ifCond .eq 68, 3) := by decide +kernel
theorem d_Mod_cut_70 : decode b_Mod_cut 70 = .ok (.aload_n 0, 1) := by decide +kernel
theorem d_Mod_cut_71 : decode b_Mod_cut 71 = .ok (.iload 5, 2) := by decide +kernel
theorem d_Mod_cut_73 : decode b_Mod_cut 73 = .ok (.invokevirtual 72, 3) := by decide +kernel
theorem d_Mod_cut_76 : decode b_Mod_cut 76 = .ok (.ifCond .eq 9, 3) := by decide +kernel
theorem d_Mod_cut_79 : decode b_Mod_cut 79 = .ok (.iinc 5 1, 3) := by decide +kernel
theorem d_Mod_cut_82 : decode b_Mod_cut 82 = .ok (.goto (-12), 3) := by decide +kernel
theorem d_Mod_cut_85 : decode b_Mod_cut 85 = .ok (.iload 5, 2) := by decide +kernel
theorem d_Mod_cut_87 : decode b_Mod_cut 87 = .ok (.iload_n 2, 1) := by decide +kernel
theorem d_Mod_cut_88 : decode b_Mod_cut 88 = .ok (.isub, 1) := by decide +kernel
theorem d_Mod_cut_89 : decode b_Mod_cut 89 = .ok (.bipush 6, 2) := by decide +kernel
theorem d_Mod_cut_91 : decode b_Mod_cut 91 = .ok (.if_icmp .le 7, 3) := by decide +kernel
theorem d_Mod_cut_94 : decode b_Mod_cut 94 = .ok (.iconst 0, 1) := by decide +kernel
theorem d_Mod_cut_95 : decode b_Mod_cut 95 = .ok (.goto 10, 3) := by decide +kernel
theorem d_Mod_cut_98 : decode b_Mod_cut 98 = .ok (.aload_n 0, 1) := by decide +kernel
theorem d_Mod_cut_99 : decode b_Mod_cut 99 = .ok (.iload_n 2, 1) := by decide +kernel
theorem d_Mod_cut_100 : decode b_Mod_cut 100 = .ok (.iload 5, 2) := by decide +kernel
theorem d_Mod_cut_102 : decode b_Mod_cut 102 = .ok (.invokevirtual 76, 3) := by decide +kernel
theorem d_Mod_cut_105 : decode b_Mod_cut 105 = .ok (.istore 6, 2) := by decide +kernel
theorem d_Mod_cut_107 : decode b_Mod_cut 107 = .ok (.iload 6, 2) := by decide +kernel
theorem d_Mod_cut_109 : decode b_Mod_cut 109 = .ok (.iconst 2, 1) := by decide +kernel
theorem d_Mod_cut_110 : decode b_Mod_cut 110 = .ok (.if_icmp .ne 155, 3) := by decide +kernel
theorem d_Mod_cut_113 : decode b_Mod_cut 113 = .ok (.aload_n 0, 1) := by decide +kernel
theorem d_Mod_cut_114 : decode b_Mod_cut 114 = .ok (.iload_n 2, 1) := by decide +kernel
theorem d_Mod_cut_115 : decode b_Mod_cut 115 = .ok (.iload 5, 2) := by decide +kernel
theorem d_Mod_cut_117 : decode b_Mod_cut 117 = .ok (.iload_n 3, 1) := by decide +kernel
theorem d_Mod_cut_118 : decode b_Mod_cut 118 = .ok (.invokevirtual 80, 3) := by decide +kernel
theorem d_Mod_cut_121 : decode b_Mod_cut 121 = .ok (.istore 7, 2) := by decide +kernel
theorem d_Mod_cut_123 : decode b_Mod_cut 123 = .ok (.iload 7, 2) := by decide +kernel
theorem d_Mod_cut_125 : decode b_Mod_cut 125 = .ok (.iload_n 3, 1) := by decide +kernel
theorem d_Mod_cut_126 : decode b_Mod_cut 126 = .ok (.if_icmp .ne 139, 3) := by decide +kernel
theorem d_Mod_cut_129 : decode b_Mod_cut 129 = .ok (.iinc 3 1, 3) := by decide +kernel
theorem d_Mod_cut_132 : decode b_Mod_cut 132 = .ok (.goto 133, 3) := by decide +kernel
theorem d_Mod_cut_135 : decode b_Mod_cut 135 = .ok (.aload_n 0, 1) := by decide +kernel
theorem d_Mod_cut_136 : decode b_Mod_cut 136 = .ok (.iload_n 2, 1) := by decide +kernel
theorem d_Mod_cut_137 : decode b_Mod_cut 137 = .ok (.invokevirtual 84, 3) := by decide +kernel
theorem d_Mod_cut_140 : decode b_Mod_cut 140 = .ok (.ifCond .eq 98, 3) := by decide +kernel
theorem d_Mod_cut_143 : decode b_Mod_cut 143 = .ok (.aload_n 0, 1) := by decide +kernel
theorem d_Mod_cut_144 : decode b_Mod_cut 144 = .ok (.iload 5, 2) := by decide +kernel
theorem d_Mod_cut_146 : decode b_Mod_cut 146 = .ok (.invokevirtual 84, 3) := by decide +kernel
theorem d_Mod_cut_149 : decode b_Mod_cut 149 = .ok (.ifCond .eq 9, 3) := by decide +kernel
theorem d_Mod_cut_152 : decode b_Mod_cut 152 = .ok (.iinc 5 1, 3) := by decide +kernel
theorem d_Mod_cut_155 : decode b_Mod_cut 155 = .ok (.goto (-12), 3) := by decide +kernel
theorem d_Mod_cut_158 : decode b_Mod_cut 158 = .ok (.iload 5, 2) := by decide +kernel
theorem d_Mod_cut_160 : decode b_Mod_cut 160 = .ok (.istore 8, 2) := by decide +kernel
theorem d_Mod_cut_162 : decode b_Mod_cut 162 = .ok (.iload 5, 2) := by decide +kernel
theorem d_Mod_cut_164 : decode b_Mod_cut 164 = .ok (.aload_n 0, 1) := by decide +kernel
theorem d_Mod_cut_165 : decode b_Mod_cut 165 = .ok (.getfield 66, 3) := by decide +kernel
theorem d_Mod_cut_168 : decode b_Mod_cut 168 = .ok (.if_icmp .ge 44, 3) := by decide +kernel
theorem d_Mod_cut_171 : decode b_Mod_cut 171 = .ok (.aload_n 0, 1) := by decide +kernel
theorem d_Mod_cut_172 : decode b_Mod_cut 172 = .ok (.getfield 7, 3) := by decide +kernel
theorem d_Mod_cut_175 : decode b_Mod_cut 175 = .ok (.iload 5, 2) := by decide +kernel
theorem d_Mod_cut_177 : decode b_Mod_cut 177 = .ok (.caload, 1) := by decide +kernel
theorem d_Mod_cut_178 : decode b_Mod_cut 178 = .ok (.bipush 46, 2) := by decide +kernel
theorem d_Mod_cut_180 : decode b_Mod_cut 180 = .ok (.if_icmp .ne 32, 3) := by decide +kernel
theorem d_Mod_cut_183 : decode b_Mod_cut 183 = .ok (.aload_n 0, 1) := by decide +kernel
theorem d_Mod_cut_184 : decode b_Mod_cut 184 = .ok (.iload 5, 2) := by decide +kernel
theorem d_Mod_cut_186 : decode b_Mod_cut 186 = .ok (.iconst 1, 1) := by decide +kernel
theorem d_Mod_cut_187 : decode b_Mod_cut 187 = .ok (.iadd, 1) := by decide +kernel
theorem d_Mod_cut_188 : decode b_Mod_cut 188 = .ok (.invokevirtual 84, 3) := by decide +kernel
theorem d_Mod_cut_191 : decode b_Mod_cut 191 = .ok (.ifCond .eq 21, 3) := by decide +kernel
theorem d_Mod_cut_194 : decode b_Mod_cut 194 = .ok (.iinc 5 1, 3) := by decide +kernel
theorem d_Mod_cut_197 : decode b_Mod_cut 197 = .ok (.aload_n 0, 1) := by decide +kernel
theorem d_Mod_cut_198 : decode b_Mod_cut 198 = .ok (.iload 5, 2) := by decide +kernel
theorem d_Mod_cut_200 : decode b_Mod_cut 200 = .ok (.invokevirtual 84, 3) := by decide +kernel
theorem d_Mod_cut_203 : decode b_Mod_cut 203 = .ok (.ifCond .eq 9, 3) := by decide +kernel
theorem d_Mod_cut_206 : decode b_Mod_cut 206 = .ok (.iinc 5 1, 3) := by decide +kernel
theorem d_Mod_cut_209 : decode b_Mod_cut 209 = .ok (.goto (-12), 3) := by decide +kernel
theorem d_Mod_cut_212 : decode b_Mod_cut 212 = .ok (.aload_n 0, 1) := by decide +kernel
theorem d_Mod_cut_213 : decode b_Mod_cut 213 = .ok (.iload_n 2, 1) := by decide +kernel
theorem d_Mod_cut_214 : decode b_Mod_cut 214 = .ok (.iload 8, 2) := by decide +kernel
theorem d_Mod_cut_216 : decode b_Mod_cut 216 = .ok (.iload 5, 2) := by decide +kernel
theorem d_Mod_cut_218 : decode b_Mod_cut 218 = .ok (.invokevirtual 87, 3) := by decide +kernel
theorem d_Mod_cut_221 : decode b_Mod_cut 221 = .ok (.istore 7, 2) := by decide +kernel
theorem d_Mod_cut_223 : decode b_Mod_cut 223 = .ok (.iload 7, 2) := by decide +kernel
theorem d_Mod_cut_225 : decode b_Mod_cut 225 = .ok (.ifCond .ge 7, 3) := by decide +kernel
theorem d_Mod_cut_228 : decode b_Mod_cut 228 = .ok (.iconst 0, 1) := by decide +kernel
theorem d_Mod_cut_229 : decode b_Mod_cut 229 = .ok (.goto 4, 3) := by decide +kernel
theorem d_Mod_cut_232 : decode b_Mod_cut 232 = .ok (.iconst 1, 1) := by decide +kernel
theorem d_Mod_cut_233 : decode b_Mod_cut 233 = .ok (.istore 6, 2) := by decide +kernel
theorem d_Mod_cut_235 : decode b_Mod_cut 235 = .ok (.goto 30, 3) := by decide +kernel
theorem d_Mod_cut_238 : decode b_Mod_cut 238 = .ok (.iinc 5 1, 3) := by decide +kernel
theorem d_Mod_cut_241 : decode b_Mod_cut 241 = .ok (.aload_n 0, 1) := by decide +kernel
theorem d_Mod_cut_242 : decode b_Mod_cut 242 = .ok (.getfield 7, 3) := by decide +kernel
theorem d_Mod_cut_245 : decode b_Mod_cut 245 = .ok (.iload_n 2, 1) := by decide +kernel
theorem d_Mod_cut_246 : decode b_Mod_cut 246 = .ok (.caload, 1) := by decide +kernel
theorem d_Mod_cut_247 : decode b_Mod_cut 247 = .ok (.invokestatic 90, 3) := by decide +kernel
theorem d_Mod_cut_250 : decode b_Mod_cut 250 = .ok (.ifCond .eq 12, 3) := by decide +kernel
theorem d_Mod_cut_253 : decode b_Mod_cut 253 = .ok (.aload_n 0, 1) := by decide +kernel
theorem d_Mod_cut_254 : decode b_Mod_cut 254 = .ok (.getfield 7, 3) := by decide +kernel
theorem d_Mod_cut_257 : decode b_Mod_cut 257 = .ok (.iload_n 2, 1) := by decide +kernel
theorem d_Mod_cut_258 : decode b_Mod_cut 258 = .ok (.caload, 1) := by decide +kernel
theorem d_Mod_cut_259 : decode b_Mod_cut 259 = .ok (.goto 4, 3) := by decide +kernel
theorem d_Mod_cut_262 : decode b_Mod_cut 262 = .ok (.iconst 0, 1) := by decide +kernel
theorem d_Mod_cut_263 : decode b_Mod_cut 263 = .ok (.istore 6, 2) := by decide +kernel
theorem d_Mod_cut_265 : decode b_Mod_cut 265 = .ok (.aload_n 0, 1) := by decide +kernel
theorem d_Mod_cut_266 : decode b_Mod_cut 266 = .ok (.getfield 13, 3) := by decide +kernel
theorem d_Mod_cut_269 : decode b_Mod_cut 269 = .ok (.sipush 1344, 3) := by decide +kernel
theorem d_Mod_cut_272 : decode b_Mod_cut 272 = .ok (.iload_n 1, 1) := by decide +kernel
theorem d_Mod_cut_273 : decode b_Mod_cut 273 = .ok (.iadd, 1) := by decide +kernel
theorem d_Mod_cut_274 : decode b_Mod_cut 274 = .ok (.iload 6, 2) := by decide +kernel
theorem d_Mod_cut_276 : decode b_Mod_cut 276 = .ok (.iastore, 1) := by decide +kernel
theorem d_Mod_cut_277 : decode b_Mod_cut 277 = .ok (.aload_n 0, 1) := by decide +kernel
theorem d_Mod_cut_278 : decode b_Mod_cut 278 = .ok (.getfield 17, 3) := by decide +kernel
theorem d_Mod_cut_281 : decode b_Mod_cut 281 = .ok (.sipush 1344, 3) := by decide +kernel
theorem d_Mod_cut_284 : decode b_Mod_cut 284 = .ok (.iload_n 1, 1) := by decide +kernel
theorem d_Mod_cut_285 : decode b_Mod_cut 285 = .ok (.iadd, 1) := by decide +kernel
theorem d_Mod_cut_286 : decode b_Mod_cut 286 = .ok (.iload 7, 2) := by decide +kernel
theorem d_Mod_cut_288 : decode b_Mod_cut 288 = .ok (.iastore, 1) := by decide +kernel
theorem d_Mod_cut_289 : decode b_Mod_cut 289 = .ok (.aload_n 0, 1) := by decide +kernel
theorem d_Mod_cut_290 : decode b_Mod_cut 290 = .ok (.getfield 20, 3) := by decide +kernel
theorem d_Mod_cut_293 : decode b_Mod_cut 293 = .ok (.iload_n 1, 1) := by decide +kernel
theorem d_Mod_cut_294 : decode b_Mod_cut 294 = .ok (.iload_n 2, 1) := by decide +kernel
theorem d_Mod_cut_295 : decode b_Mod_cut 295 = .ok (.iastore, 1) := by decide +kernel
theorem d_Mod_cut_296 : decode b_Mod_cut 296 = .ok (.iinc 1 1, 3) := by decide +kernel
theorem d_Mod_cut_299 : decode b_Mod_cut 299 = .ok (.iload 5, 2) := by decide +kernel
theorem d_Mod_cut_301 : decode b_Mod_cut 301 = .ok (.istore_n 2, 1) := by decide +kernel
theorem d_Mod_cut_302 : decode b_Mod_cut 302 = .ok (.iload 6, 2) := by decide +kernel
theorem d_Mod_cut_304 : decode b_Mod_cut 304 = .ok (.ifCond .eq 7, 3) := by decide +kernel
theorem d_Mod_cut_307 : decode b_Mod_cut 307 = .ok (.iconst 1, 1) := by decide +kernel
theorem d_Mod_cut_308 : decode b_Mod_cut 308 = .ok (.goto 4, 3) := by decide +kernel
theorem d_Mod_cut_311 : decode b_Mod_cut 311 = .ok (.iconst 0, 1) := by decide +kernel
theorem d_Mod_cut_312 : decode b_Mod_cut 312 = .ok (.istore 4, 2) := by decide +kernel
theorem d_Mod_cut_314 : decode b_Mod_cut 314 = .ok (.goto (-302), 3) := by decide +kernel
theorem d_Mod_cut_317 : decode b_Mod_cut 317 = .ok (.aload_n 0, 1) := by decide +kernel
theorem d_Mod_cut_318 : decode b_Mod_cut 318 = .ok (.getfield 23, 3) := by decide +kernel
theorem d_Mod_cut_321 : decode b_Mod_cut 321 = .ok (.bipush 28, 2) := by decide +kernel
theorem d_Mod_cut_323 : decode b_Mod_cut 323 = .ok (.iload_n 1, 1) := by decide +kernel
theorem d_Mod_cut_324 : decode b_Mod_cut 324 = .ok (.iastore, 1) := by decide +kernel
theorem d_Mod_cut_325 : decode b_Mod_cut 325 = .ok (.aload_n 0, 1) := by decide +kernel
theorem d_Mod_cut_326 : decode b_Mod_cut 326 = .ok (.iload_n 3, 1) := by decide +kernel
theorem d_Mod_cut_327 : decode b_Mod_cut 327 = .ok (.putfield 94, 3) := by decide +kernel
theorem d_Mod_cut_330 : decode b_Mod_cut 330 = .ok (.return_, 1) := by decide +kernel
def μ_Mod_cut : ax_M := (b_Mod_cut, 9, "DotConsoleModel", none, 1, 28, 0, 0)
theorem Y_Mod_cut : ax_YV μ_Mod_cut y_Mod_cut 0 := ⟨⟨ax_mem (by decide +kernel) rfl, ax_mem (by decide +kernel) rfl, by decide, by decide, by decide +kernel⟩, ax_mem (by decide +kernel) rfl, ax_mem (by decide +kernel) rfl⟩
theorem kf_Mod_13 : Cond.fieldLink "DotConsoleModel" 13 "DotConsoleModel" "kind" "[I" ∈ ax_T := ax_mem (by decide +kernel) rfl
theorem kf_Mod_17 : Cond.fieldLink "DotConsoleModel" 17 "DotConsoleModel" "meaning" "[I" ∈ ax_T := ax_mem (by decide +kernel) rfl
theorem kf_Mod_20 : Cond.fieldLink "DotConsoleModel" 20 "DotConsoleModel" "where" "[I" ∈ ax_T := ax_mem (by decide +kernel) rfl
theorem km_Mod_80 : Cond.methodLink "DotConsoleModel" 80 ⟨"DotConsoleModel", "nameOf", "(III)I"⟩ ∈ ax_T := ax_mem (by decide +kernel) rfl
theorem km_Mod_72 : Cond.methodLink "DotConsoleModel" 72 ⟨"DotConsoleModel", "letter", "(I)Z"⟩ ∈ ax_T := ax_mem (by decide +kernel) rfl
theorem km_Mod_76 : Cond.methodLink "DotConsoleModel" 76 ⟨"DotConsoleModel", "wordKind", "(II)I"⟩ ∈ ax_T := ax_mem (by decide +kernel) rfl
theorem km_Mod_87 : Cond.methodLink "DotConsoleModel" 87 ⟨"DotConsoleModel", "numberOf", "(III)I"⟩ ∈ ax_T := ax_mem (by decide +kernel) rfl
theorem km_Mod_84 : Cond.methodLink "DotConsoleModel" 84 ⟨"DotConsoleModel", "digit", "(I)Z"⟩ ∈ ax_T := ax_mem (by decide +kernel) rfl
theorem kf_Mod_23 : Cond.fieldLink "DotConsoleModel" 23 "DotConsoleModel" "tokens" "[I" ∈ ax_T := ax_mem (by decide +kernel) rfl
theorem kf_Mod_94 : Cond.fieldLink "DotConsoleModel" 94 "DotConsoleModel" "newNames" "I" ∈ ax_T := ax_mem (by decide +kernel) rfl
theorem km_Mod_90 : Cond.methodLink "DotConsoleModel" 90 ⟨"DotConsoleModel", "sign", "(C)Z"⟩ ∈ ax_T := ax_mem (by decide +kernel) rfl
theorem kf_Mod_69 : Cond.fieldLink "DotConsoleModel" 69 "DotConsoleModel" "names" "I" ∈ ax_T := ax_mem (by decide +kernel) rfl
def J_Mod_cut_265 (N : Nat) (K12 : Int32 → Int32 → Int32 → Int32 → St → Option St) (l1 : Int32) (l2 : Int32) (l3 : Int32) (l5 : Int32) (l6 : Int32) (l7 : Int32) (σ : St) : Option St :=
  (if (inB (1344 + l1) 1400) = true then ax_let (sA σ 1 (1344 + l1).toNatClampNeg l6) (fun σ10 =>
  (if (inB (1344 + l1) 1400) = true then ax_let (sA σ10 2 (1344 + l1).toNatClampNeg l7) (fun σ11 =>
  (if (inB l1 49) = true then ax_let (sA σ11 3 l1.toNatClampNeg l2) (fun σ12 =>
  ax_let ((l1 + 1) : Int32) (fun v7 =>
  (if l6 = 0 then
  K12 v7 l5 l3 0 σ12
  else K12 v7 l5 l3 1 σ12))) else none)) else none)) else none)
def J_Mod_cut_105 (N : Nat) (K12 : Int32 → Int32 → Int32 → Int32 → St → Option St) (t0 : Int32) (l1 : Int32) (l2 : Int32) (l3 : Int32) (l5 : Int32) (l7 : Int32) (σ : St) : Option St :=
  (if t0 = 2 then
  ax_bind (J_Mod_nameOf N l2 l5 l3 σ) (fun r10 σ15 =>
  (if r10 = l3 then
  ax_let ((l3 + 1) : Int32) (fun v9 =>
  J_Mod_cut_265 N K12 l1 l2 v9 l5 t0 r10 σ15)
  else J_Mod_cut_265 N K12 l1 l2 l3 l5 t0 r10 σ15))
  else J_Mod_cut_265 N K12 l1 l2 l3 l5 t0 l7 σ)
def J_Mod_cut_70 (N : Nat) (K12 : Int32 → Int32 → Int32 → Int32 → St → Option St) : Nat → Int32 → Int32 → Int32 → Int32 → Int32 → St → Option St
  | 0, _, _, _, _, _, _ => none
  | n + 1, l1, l2, l3, l5, l7, σ => ax_bind (J_Mod_letter N l5 σ) (fun r6 σ8 =>
  (if r6 = 0 then
  (if (l5 - l2) ≤ 6 then
  ax_bind (J_Mod_wordKind N l2 l5 σ8) (fun r7 σ9 =>
  J_Mod_cut_105 N K12 r7 l1 l2 l3 l5 l7 σ9)
  else J_Mod_cut_105 N K12 0 l1 l2 l3 l5 l7 σ8)
  else ax_let ((l5 + 1) : Int32) (fun v6 =>
  J_Mod_cut_70 N K12 n l1 l2 l3 v6 l7 σ8)))
def J_Mod_cut_233 (N : Nat) (K12 : Int32 → Int32 → Int32 → Int32 → St → Option St) (t0 : Int32) (l1 : Int32) (l2 : Int32) (l3 : Int32) (l5 : Int32) (l7 : Int32) (σ : St) : Option St :=
  J_Mod_cut_265 N K12 l1 l2 l3 l5 t0 l7 σ
def J_Mod_cut_212 (N : Nat) (K12 : Int32 → Int32 → Int32 → Int32 → St → Option St) (l1 : Int32) (l2 : Int32) (l3 : Int32) (l5 : Int32) (l8 : Int32) (σ : St) : Option St :=
  ax_bind (J_Mod_numberOf N l2 l8 l5 σ) (fun r8 σ13 =>
  (if 0 ≤ r8 then
  J_Mod_cut_233 N K12 1 l1 l2 l3 l5 r8 σ13
  else J_Mod_cut_233 N K12 0 l1 l2 l3 l5 r8 σ13))
def J_Mod_cut_197 (N : Nat) (K12 : Int32 → Int32 → Int32 → Int32 → St → Option St) : Nat → Int32 → Int32 → Int32 → Int32 → Int32 → St → Option St
  | 0, _, _, _, _, _, _ => none
  | n + 1, l1, l2, l3, l5, l8, σ => ax_bind (J_Mod_digit N l5 σ) (fun r9 σ14 =>
  (if r9 = 0 then
  J_Mod_cut_212 N K12 l1 l2 l3 l5 l8 σ14
  else ax_let ((l5 + 1) : Int32) (fun v8 =>
  J_Mod_cut_197 N K12 n l1 l2 l3 v8 l8 σ14)))
def J_Mod_cut_143 (N : Nat) (K12 : Int32 → Int32 → Int32 → Int32 → St → Option St) : Nat → Int32 → Int32 → Int32 → Int32 → St → Option St
  | 0, _, _, _, _, _ => none
  | n + 1, l1, l2, l3, l5, σ => ax_bind (J_Mod_digit N l5 σ) (fun r4 σ6 =>
  (if r4 = 0 then
  (if (σ6.1 0) ≤ l5 then
  J_Mod_cut_212 N K12 l1 l2 l3 l5 l5 σ6
  else (if (inB l5 48) = true then (if (σ6.2 0 l5.toNatClampNeg) = 46 then
  ax_bind (J_Mod_digit N (l5 + 1) σ6) (fun r5 σ7 =>
  (if r5 = 0 then
  J_Mod_cut_212 N K12 l1 l2 l3 l5 l5 σ7
  else ax_let ((l5 + 1) : Int32) (fun v4 =>
  J_Mod_cut_197 N K12 N l1 l2 l3 v4 l5 σ7)))
  else J_Mod_cut_212 N K12 l1 l2 l3 l5 l5 σ6) else none))
  else ax_let ((l5 + 1) : Int32) (fun v5 =>
  J_Mod_cut_143 N K12 n l1 l2 l3 v5 σ6)))
def J_Mod_cut_263 (N : Nat) (K12 : Int32 → Int32 → Int32 → Int32 → St → Option St) (t0 : Int32) (l1 : Int32) (l2 : Int32) (l3 : Int32) (l5 : Int32) (l7 : Int32) (σ : St) : Option St :=
  J_Mod_cut_265 N K12 l1 l2 l3 l5 t0 l7 σ
def J_Mod_cut_317 (N : Nat) (l1 : Int32) (l3 : Int32) (σ : St) : Option St :=
  (if (inB 28 29) = true then ax_let (sA σ 4 (28 : Int32).toNatClampNeg l1) (fun σ1 =>
  ax_let (sF σ1 13 l3) (fun σ2 =>
  some σ2)) else none)
def J_Mod_cut_42 (N : Nat) (K12 : Int32 → Int32 → Int32 → Int32 → St → Option St) (l1 : Int32) (l2 : Int32) (l3 : Int32) (σ : St) : Option St :=
  (if l2 < (σ.1 0) then
  ax_bind (J_Mod_letter N l2 σ) (fun r1 σ3 =>
  (if r1 = 0 then
  ax_bind (J_Mod_digit N l2 σ3) (fun r2 σ4 =>
  (if r2 = 0 then
  ax_let ((l2 + 1) : Int32) (fun v3 =>
  (if (inB l2 48) = true then ax_bind (J_Mod_sign N (σ4.2 0 l2.toNatClampNeg) σ4) (fun r3 σ5 =>
  (if r3 = 0 then
  J_Mod_cut_263 N K12 0 l1 l2 l3 v3 0 σ5
  else (if (inB l2 48) = true then J_Mod_cut_263 N K12 (σ5.2 0 l2.toNatClampNeg) l1 l2 l3 v3 0 σ5 else none))) else none))
  else J_Mod_cut_143 N K12 N l1 l2 l3 l2 σ4))
  else J_Mod_cut_70 N K12 N l1 l2 l3 l2 0 σ3))
  else J_Mod_cut_317 N l1 l3 σ)
def J_Mod_cut_17 (N : Nat) (K12 : Int32 → Int32 → Int32 → Int32 → St → Option St) : Nat → Int32 → Int32 → Int32 → St → Option St
  | 0, _, _, _, _ => none
  | n + 1, l1, l2, l3, σ => (if (σ.1 0) ≤ l2 then
  J_Mod_cut_42 N K12 l1 l2 l3 σ
  else (if (inB l2 48) = true then (if (σ.2 0 l2.toNatClampNeg) = 32 then
  ax_let ((l2 + 1) : Int32) (fun v2 =>
  J_Mod_cut_17 N K12 n l1 v2 l3 σ)
  else J_Mod_cut_42 N K12 l1 l2 l3 σ) else none))
def J_Mod_cut_12 (N : Nat) : Nat → Int32 → Int32 → Int32 → Int32 → St → Option St
  | 0, _, _, _, _, _ => none
  | n + 1, l1, l2, l3, l4, σ => (if l4 = 0 then
  J_Mod_cut_317 N l1 l3 σ
  else J_Mod_cut_17 N (fun l1 l2 l3 l4 σ => J_Mod_cut_12 N n l1 l2 l3 l4 σ) N l1 l2 l3 σ)
def J_Mod_cut (N : Nat) (σ : St) : Option St :=
  ax_let ((σ.1 3) : Int32) (fun v1 =>
  J_Mod_cut_12 N N 0 0 v1 1 σ)
set_option maxHeartbeats 1000000 in
theorem t_Mod_cut_265 {N : Nat} {g : ax_G} {s9 : St} (x : ax_X) (A : Nat → Prop) {K12 : Int32 → Int32 → Int32 → Int32 → St → Option St} (hK12 : ∀ (l1 : Int32) (l2 : Int32) (l3 : Int32) (l4 : Int32) (σ : St), K12 l1 l2 l3 l4 σ = some s9 → AW x μ_Mod_cut g A (wM g) (0, 0) (ax_QV x μ_Mod_cut g A (wM g) (ax_eqV s9)) 12 [(0, .ref (g.2.1 32)), (1, .int l1), (2, .int l2), (3, .int l3), (4, .int l4)] [] σ) : ∀ (l1 : Int32) (l2 : Int32) (l3 : Int32) (l5 : Int32) (l6 : Int32) (l7 : Int32) (σ : St), J_Mod_cut_265 N K12 l1 l2 l3 l5 l6 l7 σ = some s9 → AW x μ_Mod_cut g A (wM g) (0, 0) (ax_QV x μ_Mod_cut g A (wM g) (ax_eqV s9)) 265 [(0, .ref (g.2.1 32)), (1, .int l1), (2, .int l2), (3, .int l3), (5, .int l5), (6, .int l6), (7, .int l7)] [] σ := by
  intro l1 l2 l3 l5 l6 l7 σ hJ
  rw [J_Mod_cut_265] at hJ
  refine aw_aload_n (n := 266) d_Mod_cut_265 rfl rfl 0 rfl ?_
  refine gf_Mod_kind (n := 269) d_Mod_cut_266 rfl kf_Mod_13 ?_
  refine aw_sipush (n := 272) (v := 1344) d_Mod_cut_269 rfl (by decide) ?_
  refine aw_iload_n (n := 273) d_Mod_cut_272 rfl rfl 1 rfl ?_
  refine aw_iadd (n := 274) d_Mod_cut_273 rfl ?_
  refine aw_iload (n := 276) d_Mod_cut_274 rfl 5 rfl ?_
  obtain ⟨h6, hJ⟩ := ax_need hJ
  refine as_34 (n := 277) d_Mod_cut_276 rfl h6 ?_
  obtain ⟨σ10, eσ10, hJ⟩ := ax_letE hJ
  refine aw_let eσ10 ?_
  refine aw_aload_n (n := 278) d_Mod_cut_277 rfl rfl 0 rfl ?_
  refine gf_Mod_meaning (n := 281) d_Mod_cut_278 rfl kf_Mod_17 ?_
  refine aw_sipush (n := 284) (v := 1344) d_Mod_cut_281 rfl (by decide) ?_
  refine aw_iload_n (n := 285) d_Mod_cut_284 rfl rfl 1 rfl ?_
  refine aw_iadd (n := 286) d_Mod_cut_285 rfl ?_
  refine aw_iload (n := 288) d_Mod_cut_286 rfl 6 rfl ?_
  obtain ⟨h7, hJ⟩ := ax_need hJ
  refine as_35 (n := 289) d_Mod_cut_288 rfl h7 ?_
  obtain ⟨σ11, eσ11, hJ⟩ := ax_letE hJ
  refine aw_let eσ11 ?_
  refine aw_aload_n (n := 290) d_Mod_cut_289 rfl rfl 0 rfl ?_
  refine gf_Mod_where (n := 293) d_Mod_cut_290 rfl kf_Mod_20 ?_
  refine aw_iload_n (n := 294) d_Mod_cut_293 rfl rfl 1 rfl ?_
  refine aw_iload_n (n := 295) d_Mod_cut_294 rfl rfl 2 rfl ?_
  obtain ⟨h8, hJ⟩ := ax_need hJ
  refine as_36 (n := 296) d_Mod_cut_295 rfl h8 ?_
  obtain ⟨σ12, eσ12, hJ⟩ := ax_letE hJ
  refine aw_let eσ12 ?_
  obtain ⟨v7, ev7, hJ⟩ := ax_letE hJ
  refine aw_iinc (n := 299) (j := 1) (v := v7) d_Mod_cut_296 rfl rfl (ev7) (by decide) rfl ?_
  refine aw_iload (n := 301) d_Mod_cut_299 rfl 4 rfl ?_
  refine aw_istore_n (n := 302) d_Mod_cut_301 rfl rfl (by decide) rfl ?_
  refine aw_iload (n := 304) d_Mod_cut_302 rfl 5 rfl ?_
  refine aw_if_eq (n := 307) (t := 311) d_Mod_cut_304 rfl (by decide) (fun c14 => ?_) (fun c14 => ?_)
  · rw [if_pos c14] at hJ
    refine aw_iconst (n := 312) (v := 0) d_Mod_cut_311 rfl (by decide) ?_
    refine aw_istore (n := 314) d_Mod_cut_312 rfl (by decide) rfl ?_
    refine aw_goto (t := 12) d_Mod_cut_314 (by decide) ?_
    refine aw_sub [3, 2, 1, 4, 0] rfl ?_
    exact hK12 _ _ _ _ _ hJ
  · rw [if_neg c14] at hJ
    refine aw_iconst (n := 308) (v := 1) d_Mod_cut_307 rfl (by decide) ?_
    refine aw_goto (t := 312) d_Mod_cut_308 (by decide) ?_
    refine aw_istore (n := 314) d_Mod_cut_312 rfl (by decide) rfl ?_
    refine aw_goto (t := 12) d_Mod_cut_314 (by decide) ?_
    refine aw_sub [3, 2, 1, 4, 0] rfl ?_
    exact hK12 _ _ _ _ _ hJ
set_option maxHeartbeats 1000000 in
theorem t_Mod_cut_105 {N : Nat} {g : ax_G} {s9 : St} (x : ax_X) (A : Nat → Prop) {K12 : Int32 → Int32 → Int32 → Int32 → St → Option St} (hK12 : ∀ (l1 : Int32) (l2 : Int32) (l3 : Int32) (l4 : Int32) (σ : St), K12 l1 l2 l3 l4 σ = some s9 → AW x μ_Mod_cut g A (wM g) (0, 0) (ax_QV x μ_Mod_cut g A (wM g) (ax_eqV s9)) 12 [(0, .ref (g.2.1 32)), (1, .int l1), (2, .int l2), (3, .int l3), (4, .int l4)] [] σ) : ∀ (t0 : Int32) (l1 : Int32) (l2 : Int32) (l3 : Int32) (l5 : Int32) (l7 : Int32) (σ : St), J_Mod_cut_105 N K12 t0 l1 l2 l3 l5 l7 σ = some s9 → AW x μ_Mod_cut g A (wM g) (0, 0) (ax_QV x μ_Mod_cut g A (wM g) (ax_eqV s9)) 105 [(0, .ref (g.2.1 32)), (1, .int l1), (2, .int l2), (3, .int l3), (5, .int l5), (7, .int l7)] [.int t0] σ := by
  intro t0 l1 l2 l3 l5 l7 σ hJ
  rw [J_Mod_cut_105] at hJ
  refine aw_istore (n := 107) d_Mod_cut_105 rfl (by decide) rfl ?_
  refine aw_iload (n := 109) d_Mod_cut_107 rfl 0 rfl ?_
  refine aw_iconst (n := 110) (v := 2) d_Mod_cut_109 rfl (by decide) ?_
  refine aw_icmp_ne (n := 113) (t := 265) d_Mod_cut_110 rfl (by decide) (fun c17 => ?_) (fun c17 => ?_)
  · rw [if_neg c17] at hJ
    refine aw_sub [1, 2, 3, 4, 5, 0, 6] rfl ?_
    exact t_Mod_cut_265 x A hK12 _ _ _ _ _ _ _ hJ
  · rw [if_pos c17] at hJ
    refine aw_aload_n (n := 114) d_Mod_cut_113 rfl rfl 1 rfl ?_
    refine aw_iload_n (n := 115) d_Mod_cut_114 rfl rfl 3 rfl ?_
    refine aw_iload (n := 117) d_Mod_cut_115 rfl 5 rfl ?_
    refine aw_iload_n (n := 118) d_Mod_cut_117 rfl rfl 4 rfl ?_
    obtain ⟨r10, σ15, hc10, hJ⟩ := ax_bindE hJ
    refine aw_callVi (n := 121) (c_Mod_nameOf hc10) 0 rfl rfl Y_Mod_nameOf km_Mod_80 (by decide) (by decide) rfl rfl (Nat.le_of_ble_eq_true rfl) d_Mod_cut_118 rfl (fun r9 s9 hp => ?_)
    obtain ⟨rfl, rfl⟩ := hp
    refine aw_istore (n := 123) d_Mod_cut_121 rfl (by decide) rfl ?_
    refine aw_iload (n := 125) d_Mod_cut_123 rfl 0 rfl ?_
    refine aw_iload_n (n := 126) d_Mod_cut_125 rfl rfl 5 rfl ?_
    refine aw_icmp_ne (n := 129) (t := 265) d_Mod_cut_126 rfl (by decide) (fun c18 => ?_) (fun c18 => ?_)
    · rw [if_neg c18] at hJ
      refine aw_sub [2, 3, 4, 5, 6, 1, 0] rfl ?_
      exact t_Mod_cut_265 x A hK12 _ _ _ _ _ _ _ hJ
    · rw [if_pos c18] at hJ
      obtain ⟨v9, ev9, hJ⟩ := ax_letE hJ
      refine aw_iinc (n := 132) (j := 5) (v := v9) d_Mod_cut_129 rfl rfl (ev9) (by decide) rfl ?_
      refine aw_goto (t := 265) d_Mod_cut_132 (by decide) ?_
      refine aw_sub [3, 4, 5, 0, 6, 2, 1] rfl ?_
      exact t_Mod_cut_265 x A hK12 _ _ _ _ _ _ _ hJ
set_option maxHeartbeats 1000000 in
theorem t_Mod_cut_70 {N : Nat} {g : ax_G} {s9 : St} (x : ax_X) (A : Nat → Prop) {K12 : Int32 → Int32 → Int32 → Int32 → St → Option St} (hK12 : ∀ (l1 : Int32) (l2 : Int32) (l3 : Int32) (l4 : Int32) (σ : St), K12 l1 l2 l3 l4 σ = some s9 → AW x μ_Mod_cut g A (wM g) (0, 0) (ax_QV x μ_Mod_cut g A (wM g) (ax_eqV s9)) 12 [(0, .ref (g.2.1 32)), (1, .int l1), (2, .int l2), (3, .int l3), (4, .int l4)] [] σ) : ∀ (n : Nat) (l1 : Int32) (l2 : Int32) (l3 : Int32) (l5 : Int32) (l7 : Int32) (σ : St), J_Mod_cut_70 N K12 n l1 l2 l3 l5 l7 σ = some s9 → AW x μ_Mod_cut g A (wM g) (0, 0) (ax_QV x μ_Mod_cut g A (wM g) (ax_eqV s9)) 70 [(0, .ref (g.2.1 32)), (1, .int l1), (2, .int l2), (3, .int l3), (5, .int l5), (7, .int l7)] [] σ := by
  intro n
  induction n with
  | zero => intro l1 l2 l3 l5 l7 σ hJ; rw [J_Mod_cut_70] at hJ; cases hJ
  | succ n ih =>
    intro l1 l2 l3 l5 l7 σ hJ
    rw [J_Mod_cut_70] at hJ
    refine aw_aload_n (n := 71) d_Mod_cut_70 rfl rfl 0 rfl ?_
    refine aw_iload (n := 73) d_Mod_cut_71 rfl 4 rfl ?_
    obtain ⟨r6, σ8, hc6, hJ⟩ := ax_bindE hJ
    refine aw_callVi (n := 76) (c_Mod_letter hc6) 0 rfl rfl Y_Mod_letter km_Mod_72 (by decide) (by decide) rfl rfl (Nat.le_of_ble_eq_true rfl) d_Mod_cut_73 rfl (fun r9 s9 hp => ?_)
    obtain ⟨rfl, rfl, hb6⟩ := hp
    refine aw_if_eq (n := 79) (t := 85) d_Mod_cut_76 rfl (by decide) (fun c12 => ?_) (fun c12 => ?_)
    · rw [if_pos c12] at hJ
      refine aw_iload (n := 87) d_Mod_cut_85 rfl 4 rfl ?_
      refine aw_iload_n (n := 88) d_Mod_cut_87 rfl rfl 2 rfl ?_
      refine aw_isub (n := 89) d_Mod_cut_88 rfl ?_
      refine aw_bipush (n := 91) (v := 6) d_Mod_cut_89 rfl (by decide) ?_
      refine aw_icmp_le (n := 94) (t := 98) d_Mod_cut_91 rfl (by decide) (fun c13 => ?_) (fun c13 => ?_)
      · rw [if_pos c13] at hJ
        refine aw_aload_n (n := 99) d_Mod_cut_98 rfl rfl 0 rfl ?_
        refine aw_iload_n (n := 100) d_Mod_cut_99 rfl rfl 2 rfl ?_
        refine aw_iload (n := 102) d_Mod_cut_100 rfl 4 rfl ?_
        obtain ⟨r7, σ9, hc7, hJ⟩ := ax_bindE hJ
        refine aw_callVi (n := 105) (c_Mod_wordKind hc7) 0 rfl rfl Y_Mod_wordKind km_Mod_76 (by decide) (by decide) rfl rfl (Nat.le_of_ble_eq_true rfl) d_Mod_cut_102 rfl (fun r9 s9 hp => ?_)
        obtain ⟨rfl, rfl⟩ := hp
        exact t_Mod_cut_105 x A hK12 _ _ _ _ _ _ _ hJ
      · rw [if_neg c13] at hJ
        refine aw_iconst (n := 95) (v := 0) d_Mod_cut_94 rfl (by decide) ?_
        refine aw_goto (t := 105) d_Mod_cut_95 (by decide) ?_
        exact t_Mod_cut_105 x A hK12 _ _ _ _ _ _ _ hJ
    · rw [if_neg c12] at hJ
      obtain ⟨v6, ev6, hJ⟩ := ax_letE hJ
      refine aw_iinc (n := 82) (j := 4) (v := v6) d_Mod_cut_79 rfl rfl (ev6) (by decide) rfl ?_
      refine aw_goto (t := 70) d_Mod_cut_82 (by decide) ?_
      refine aw_sub [1, 2, 3, 4, 0, 5] rfl ?_
      exact ih _ _ _ _ _ _ hJ
set_option maxHeartbeats 1000000 in
theorem t_Mod_cut_233 {N : Nat} {g : ax_G} {s9 : St} (x : ax_X) (A : Nat → Prop) {K12 : Int32 → Int32 → Int32 → Int32 → St → Option St} (hK12 : ∀ (l1 : Int32) (l2 : Int32) (l3 : Int32) (l4 : Int32) (σ : St), K12 l1 l2 l3 l4 σ = some s9 → AW x μ_Mod_cut g A (wM g) (0, 0) (ax_QV x μ_Mod_cut g A (wM g) (ax_eqV s9)) 12 [(0, .ref (g.2.1 32)), (1, .int l1), (2, .int l2), (3, .int l3), (4, .int l4)] [] σ) : ∀ (t0 : Int32) (l1 : Int32) (l2 : Int32) (l3 : Int32) (l5 : Int32) (l7 : Int32) (σ : St), J_Mod_cut_233 N K12 t0 l1 l2 l3 l5 l7 σ = some s9 → AW x μ_Mod_cut g A (wM g) (0, 0) (ax_QV x μ_Mod_cut g A (wM g) (ax_eqV s9)) 233 [(0, .ref (g.2.1 32)), (1, .int l1), (2, .int l2), (3, .int l3), (5, .int l5), (7, .int l7)] [.int t0] σ := by
  intro t0 l1 l2 l3 l5 l7 σ hJ
  rw [J_Mod_cut_233] at hJ
  refine aw_istore (n := 235) d_Mod_cut_233 rfl (by decide) rfl ?_
  refine aw_goto (t := 265) d_Mod_cut_235 (by decide) ?_
  refine aw_sub [1, 2, 3, 4, 5, 0, 6] rfl ?_
  exact t_Mod_cut_265 x A hK12 _ _ _ _ _ _ _ hJ
set_option maxHeartbeats 1000000 in
theorem t_Mod_cut_212 {N : Nat} {g : ax_G} {s9 : St} (x : ax_X) (A : Nat → Prop) {K12 : Int32 → Int32 → Int32 → Int32 → St → Option St} (hK12 : ∀ (l1 : Int32) (l2 : Int32) (l3 : Int32) (l4 : Int32) (σ : St), K12 l1 l2 l3 l4 σ = some s9 → AW x μ_Mod_cut g A (wM g) (0, 0) (ax_QV x μ_Mod_cut g A (wM g) (ax_eqV s9)) 12 [(0, .ref (g.2.1 32)), (1, .int l1), (2, .int l2), (3, .int l3), (4, .int l4)] [] σ) : ∀ (l1 : Int32) (l2 : Int32) (l3 : Int32) (l5 : Int32) (l8 : Int32) (σ : St), J_Mod_cut_212 N K12 l1 l2 l3 l5 l8 σ = some s9 → AW x μ_Mod_cut g A (wM g) (0, 0) (ax_QV x μ_Mod_cut g A (wM g) (ax_eqV s9)) 212 [(0, .ref (g.2.1 32)), (1, .int l1), (2, .int l2), (3, .int l3), (5, .int l5), (8, .int l8)] [] σ := by
  intro l1 l2 l3 l5 l8 σ hJ
  rw [J_Mod_cut_212] at hJ
  refine aw_aload_n (n := 213) d_Mod_cut_212 rfl rfl 0 rfl ?_
  refine aw_iload_n (n := 214) d_Mod_cut_213 rfl rfl 2 rfl ?_
  refine aw_iload (n := 216) d_Mod_cut_214 rfl 5 rfl ?_
  refine aw_iload (n := 218) d_Mod_cut_216 rfl 4 rfl ?_
  obtain ⟨r8, σ13, hc8, hJ⟩ := ax_bindE hJ
  refine aw_callVi (n := 221) (c_Mod_numberOf hc8) 0 rfl rfl Y_Mod_numberOf km_Mod_87 (by decide) (by decide) rfl rfl (Nat.le_of_ble_eq_true rfl) d_Mod_cut_218 rfl (fun r9 s9 hp => ?_)
  obtain ⟨rfl, rfl⟩ := hp
  refine aw_istore (n := 223) d_Mod_cut_221 rfl (by decide) rfl ?_
  refine aw_iload (n := 225) d_Mod_cut_223 rfl 0 rfl ?_
  refine aw_if_ge (n := 228) (t := 232) d_Mod_cut_225 rfl (by decide) (fun c15 => ?_) (fun c15 => ?_)
  · rw [if_pos c15] at hJ
    refine aw_iconst (n := 233) (v := 1) d_Mod_cut_232 rfl (by decide) ?_
    refine aw_sub [1, 2, 3, 4, 5, 0] rfl ?_
    exact t_Mod_cut_233 x A hK12 _ _ _ _ _ _ _ hJ
  · rw [if_neg c15] at hJ
    refine aw_iconst (n := 229) (v := 0) d_Mod_cut_228 rfl (by decide) ?_
    refine aw_goto (t := 233) d_Mod_cut_229 (by decide) ?_
    refine aw_sub [1, 2, 3, 4, 5, 0] rfl ?_
    exact t_Mod_cut_233 x A hK12 _ _ _ _ _ _ _ hJ
set_option maxHeartbeats 1000000 in
theorem t_Mod_cut_197 {N : Nat} {g : ax_G} {s9 : St} (x : ax_X) (A : Nat → Prop) {K12 : Int32 → Int32 → Int32 → Int32 → St → Option St} (hK12 : ∀ (l1 : Int32) (l2 : Int32) (l3 : Int32) (l4 : Int32) (σ : St), K12 l1 l2 l3 l4 σ = some s9 → AW x μ_Mod_cut g A (wM g) (0, 0) (ax_QV x μ_Mod_cut g A (wM g) (ax_eqV s9)) 12 [(0, .ref (g.2.1 32)), (1, .int l1), (2, .int l2), (3, .int l3), (4, .int l4)] [] σ) : ∀ (n : Nat) (l1 : Int32) (l2 : Int32) (l3 : Int32) (l5 : Int32) (l8 : Int32) (σ : St), J_Mod_cut_197 N K12 n l1 l2 l3 l5 l8 σ = some s9 → AW x μ_Mod_cut g A (wM g) (0, 0) (ax_QV x μ_Mod_cut g A (wM g) (ax_eqV s9)) 197 [(0, .ref (g.2.1 32)), (1, .int l1), (2, .int l2), (3, .int l3), (5, .int l5), (8, .int l8)] [] σ := by
  intro n
  induction n with
  | zero => intro l1 l2 l3 l5 l8 σ hJ; rw [J_Mod_cut_197] at hJ; cases hJ
  | succ n ih =>
    intro l1 l2 l3 l5 l8 σ hJ
    rw [J_Mod_cut_197] at hJ
    refine aw_aload_n (n := 198) d_Mod_cut_197 rfl rfl 0 rfl ?_
    refine aw_iload (n := 200) d_Mod_cut_198 rfl 4 rfl ?_
    obtain ⟨r9, σ14, hc9, hJ⟩ := ax_bindE hJ
    refine aw_callVi (n := 203) (c_Mod_digit hc9) 0 rfl rfl Y_Mod_digit km_Mod_84 (by decide) (by decide) rfl rfl (Nat.le_of_ble_eq_true rfl) d_Mod_cut_200 rfl (fun r9 s9 hp => ?_)
    obtain ⟨rfl, rfl, hb7⟩ := hp
    refine aw_if_eq (n := 206) (t := 212) d_Mod_cut_203 rfl (by decide) (fun c16 => ?_) (fun c16 => ?_)
    · rw [if_pos c16] at hJ
      exact t_Mod_cut_212 x A hK12 _ _ _ _ _ _ hJ
    · rw [if_neg c16] at hJ
      obtain ⟨v8, ev8, hJ⟩ := ax_letE hJ
      refine aw_iinc (n := 209) (j := 4) (v := v8) d_Mod_cut_206 rfl rfl (ev8) (by decide) rfl ?_
      refine aw_goto (t := 197) d_Mod_cut_209 (by decide) ?_
      refine aw_sub [1, 2, 3, 4, 0, 5] rfl ?_
      exact ih _ _ _ _ _ _ hJ
set_option maxHeartbeats 1000000 in
theorem t_Mod_cut_143 {N : Nat} {g : ax_G} {s9 : St} (x : ax_X) (A : Nat → Prop) {K12 : Int32 → Int32 → Int32 → Int32 → St → Option St} (hK12 : ∀ (l1 : Int32) (l2 : Int32) (l3 : Int32) (l4 : Int32) (σ : St), K12 l1 l2 l3 l4 σ = some s9 → AW x μ_Mod_cut g A (wM g) (0, 0) (ax_QV x μ_Mod_cut g A (wM g) (ax_eqV s9)) 12 [(0, .ref (g.2.1 32)), (1, .int l1), (2, .int l2), (3, .int l3), (4, .int l4)] [] σ) : ∀ (n : Nat) (l1 : Int32) (l2 : Int32) (l3 : Int32) (l5 : Int32) (σ : St), J_Mod_cut_143 N K12 n l1 l2 l3 l5 σ = some s9 → AW x μ_Mod_cut g A (wM g) (0, 0) (ax_QV x μ_Mod_cut g A (wM g) (ax_eqV s9)) 143 [(0, .ref (g.2.1 32)), (1, .int l1), (2, .int l2), (3, .int l3), (5, .int l5)] [] σ := by
  intro n
  induction n with
  | zero => intro l1 l2 l3 l5 σ hJ; rw [J_Mod_cut_143] at hJ; cases hJ
  | succ n ih =>
    intro l1 l2 l3 l5 σ hJ
    rw [J_Mod_cut_143] at hJ
    refine aw_aload_n (n := 144) d_Mod_cut_143 rfl rfl 0 rfl ?_
    refine aw_iload (n := 146) d_Mod_cut_144 rfl 4 rfl ?_
    obtain ⟨r4, σ6, hc4, hJ⟩ := ax_bindE hJ
    refine aw_callVi (n := 149) (c_Mod_digit hc4) 0 rfl rfl Y_Mod_digit km_Mod_84 (by decide) (by decide) rfl rfl (Nat.le_of_ble_eq_true rfl) d_Mod_cut_146 rfl (fun r9 s9 hp => ?_)
    obtain ⟨rfl, rfl, hb4⟩ := hp
    refine aw_if_eq (n := 152) (t := 158) d_Mod_cut_149 rfl (by decide) (fun c8 => ?_) (fun c8 => ?_)
    · rw [if_pos c8] at hJ
      refine aw_iload (n := 160) d_Mod_cut_158 rfl 4 rfl ?_
      refine aw_istore (n := 162) d_Mod_cut_160 rfl (by decide) rfl ?_
      refine aw_iload (n := 164) d_Mod_cut_162 rfl 5 rfl ?_
      refine aw_aload_n (n := 165) d_Mod_cut_164 rfl rfl 1 rfl ?_
      refine gf_Mod_length (n := 168) d_Mod_cut_165 rfl kf_Mod_66 ?_
      refine aw_icmp_ge (n := 171) (t := 212) d_Mod_cut_168 rfl (by decide) (fun c9 => ?_) (fun c9 => ?_)
      · rw [if_pos c9] at hJ
        refine aw_sub [1, 2, 3, 4, 5, 0] rfl ?_
        exact t_Mod_cut_212 x A hK12 _ _ _ _ _ _ hJ
      · rw [if_neg c9] at hJ
        refine aw_aload_n (n := 172) d_Mod_cut_171 rfl rfl 1 rfl ?_
        refine gf_Mod_text (n := 175) d_Mod_cut_172 rfl kf_Mod_7 ?_
        refine aw_iload (n := 177) d_Mod_cut_175 rfl 5 rfl ?_
        obtain ⟨h5, hJ⟩ := ax_need hJ
        refine al_33 (n := 178) d_Mod_cut_177 rfl h5 ?_
        refine aw_bipush (n := 180) (v := 46) d_Mod_cut_178 rfl (by decide) ?_
        refine aw_icmp_ne (n := 183) (t := 212) d_Mod_cut_180 rfl (by decide) (fun c10 => ?_) (fun c10 => ?_)
        · rw [if_neg c10] at hJ
          refine aw_sub [1, 2, 3, 4, 5, 0] rfl ?_
          exact t_Mod_cut_212 x A hK12 _ _ _ _ _ _ hJ
        · rw [if_pos c10] at hJ
          refine aw_aload_n (n := 184) d_Mod_cut_183 rfl rfl 1 rfl ?_
          refine aw_iload (n := 186) d_Mod_cut_184 rfl 5 rfl ?_
          refine aw_iconst (n := 187) (v := 1) d_Mod_cut_186 rfl (by decide) ?_
          refine aw_iadd (n := 188) d_Mod_cut_187 rfl ?_
          obtain ⟨r5, σ7, hc5, hJ⟩ := ax_bindE hJ
          refine aw_callVi (n := 191) (c_Mod_digit hc5) 0 rfl rfl Y_Mod_digit km_Mod_84 (by decide) (by decide) rfl rfl (Nat.le_of_ble_eq_true rfl) d_Mod_cut_188 rfl (fun r9 s9 hp => ?_)
          obtain ⟨rfl, rfl, hb5⟩ := hp
          refine aw_if_eq (n := 194) (t := 212) d_Mod_cut_191 rfl (by decide) (fun c11 => ?_) (fun c11 => ?_)
          · rw [if_pos c11] at hJ
            refine aw_sub [1, 2, 3, 4, 5, 0] rfl ?_
            exact t_Mod_cut_212 x A hK12 _ _ _ _ _ _ hJ
          · rw [if_neg c11] at hJ
            obtain ⟨v4, ev4, hJ⟩ := ax_letE hJ
            refine aw_iinc (n := 197) (j := 5) (v := v4) d_Mod_cut_194 rfl rfl (ev4) (by decide) rfl ?_
            refine aw_sub [2, 3, 4, 5, 0, 1] rfl ?_
            exact t_Mod_cut_197 x A hK12 N _ _ _ _ _ _ hJ
    · rw [if_neg c8] at hJ
      obtain ⟨v5, ev5, hJ⟩ := ax_letE hJ
      refine aw_iinc (n := 155) (j := 4) (v := v5) d_Mod_cut_152 rfl rfl (ev5) (by decide) rfl ?_
      refine aw_goto (t := 143) d_Mod_cut_155 (by decide) ?_
      refine aw_sub [1, 2, 3, 4, 0] rfl ?_
      exact ih _ _ _ _ _ hJ
set_option maxHeartbeats 1000000 in
theorem t_Mod_cut_263 {N : Nat} {g : ax_G} {s9 : St} (x : ax_X) (A : Nat → Prop) {K12 : Int32 → Int32 → Int32 → Int32 → St → Option St} (hK12 : ∀ (l1 : Int32) (l2 : Int32) (l3 : Int32) (l4 : Int32) (σ : St), K12 l1 l2 l3 l4 σ = some s9 → AW x μ_Mod_cut g A (wM g) (0, 0) (ax_QV x μ_Mod_cut g A (wM g) (ax_eqV s9)) 12 [(0, .ref (g.2.1 32)), (1, .int l1), (2, .int l2), (3, .int l3), (4, .int l4)] [] σ) : ∀ (t0 : Int32) (l1 : Int32) (l2 : Int32) (l3 : Int32) (l5 : Int32) (l7 : Int32) (σ : St), J_Mod_cut_263 N K12 t0 l1 l2 l3 l5 l7 σ = some s9 → AW x μ_Mod_cut g A (wM g) (0, 0) (ax_QV x μ_Mod_cut g A (wM g) (ax_eqV s9)) 263 [(0, .ref (g.2.1 32)), (1, .int l1), (2, .int l2), (3, .int l3), (5, .int l5), (7, .int l7)] [.int t0] σ := by
  intro t0 l1 l2 l3 l5 l7 σ hJ
  rw [J_Mod_cut_263] at hJ
  refine aw_istore (n := 265) d_Mod_cut_263 rfl (by decide) rfl ?_
  refine aw_sub [1, 2, 3, 4, 5, 0, 6] rfl ?_
  exact t_Mod_cut_265 x A hK12 _ _ _ _ _ _ _ hJ
set_option maxHeartbeats 1000000 in
theorem t_Mod_cut_317 {N : Nat} {g : ax_G} {s9 : St} (x : ax_X) (A : Nat → Prop) : ∀ (l1 : Int32) (l3 : Int32) (σ : St), J_Mod_cut_317 N l1 l3 σ = some s9 → AW x μ_Mod_cut g A (wM g) (0, 0) (ax_QV x μ_Mod_cut g A (wM g) (ax_eqV s9)) 317 [(0, .ref (g.2.1 32)), (1, .int l1), (3, .int l3)] [] σ := by
  intro l1 l3 σ hJ
  rw [J_Mod_cut_317] at hJ
  refine aw_aload_n (n := 318) d_Mod_cut_317 rfl rfl 0 rfl ?_
  refine gf_Mod_tokens (n := 321) d_Mod_cut_318 rfl kf_Mod_23 ?_
  refine aw_bipush (n := 323) (v := 28) d_Mod_cut_321 rfl (by decide) ?_
  refine aw_iload_n (n := 324) d_Mod_cut_323 rfl rfl 1 rfl ?_
  obtain ⟨h1, hJ⟩ := ax_need hJ
  refine as_37 (n := 325) d_Mod_cut_324 rfl h1 ?_
  obtain ⟨σ1, eσ1, hJ⟩ := ax_letE hJ
  refine aw_let eσ1 ?_
  refine aw_aload_n (n := 326) d_Mod_cut_325 rfl rfl 0 rfl ?_
  refine aw_iload_n (n := 327) d_Mod_cut_326 rfl rfl 2 rfl ?_
  refine pf_Mod_newNames (n := 330) d_Mod_cut_327 rfl kf_Mod_94 ?_
  obtain ⟨σ2, eσ2, hJ⟩ := ax_letE hJ
  refine aw_let eσ2 ?_
  exact aw_vret d_Mod_cut_330 rfl (ax_retV hJ)
set_option maxHeartbeats 1000000 in
theorem t_Mod_cut_42 {N : Nat} {g : ax_G} {s9 : St} (x : ax_X) (A : Nat → Prop) {K12 : Int32 → Int32 → Int32 → Int32 → St → Option St} (hK12 : ∀ (l1 : Int32) (l2 : Int32) (l3 : Int32) (l4 : Int32) (σ : St), K12 l1 l2 l3 l4 σ = some s9 → AW x μ_Mod_cut g A (wM g) (0, 0) (ax_QV x μ_Mod_cut g A (wM g) (ax_eqV s9)) 12 [(0, .ref (g.2.1 32)), (1, .int l1), (2, .int l2), (3, .int l3), (4, .int l4)] [] σ) : ∀ (l1 : Int32) (l2 : Int32) (l3 : Int32) (σ : St), J_Mod_cut_42 N K12 l1 l2 l3 σ = some s9 → AW x μ_Mod_cut g A (wM g) (0, 0) (ax_QV x μ_Mod_cut g A (wM g) (ax_eqV s9)) 42 [(0, .ref (g.2.1 32)), (1, .int l1), (2, .int l2), (3, .int l3)] [] σ := by
  intro l1 l2 l3 σ hJ
  rw [J_Mod_cut_42] at hJ
  refine aw_iload_n (n := 43) d_Mod_cut_42 rfl rfl 2 rfl ?_
  refine aw_aload_n (n := 44) d_Mod_cut_43 rfl rfl 0 rfl ?_
  refine gf_Mod_length (n := 47) d_Mod_cut_44 rfl kf_Mod_66 ?_
  refine aw_icmp_lt (n := 50) (t := 53) d_Mod_cut_47 rfl (by decide) (fun c4 => ?_) (fun c4 => ?_)
  · rw [if_pos c4] at hJ
    refine aw_iload_n (n := 54) d_Mod_cut_53 rfl rfl 2 rfl ?_
    refine aw_istore (n := 56) d_Mod_cut_54 rfl (by decide) rfl ?_
    refine aw_iconst (n := 57) (v := 0) d_Mod_cut_56 rfl (by decide) ?_
    refine aw_istore (n := 59) d_Mod_cut_57 rfl (by decide) rfl ?_
    refine aw_iconst (n := 60) (v := 0) d_Mod_cut_59 rfl (by decide) ?_
    refine aw_istore (n := 62) d_Mod_cut_60 rfl (by decide) rfl ?_
    refine aw_aload_n (n := 63) d_Mod_cut_62 rfl rfl 3 rfl ?_
    refine aw_iload_n (n := 64) d_Mod_cut_63 rfl rfl 5 rfl ?_
    obtain ⟨r1, σ3, hc1, hJ⟩ := ax_bindE hJ
    refine aw_callVi (n := 67) (c_Mod_letter hc1) 0 rfl rfl Y_Mod_letter km_Mod_72 (by decide) (by decide) rfl rfl (Nat.le_of_ble_eq_true rfl) d_Mod_cut_64 rfl (fun r9 s9 hp => ?_)
    obtain ⟨rfl, rfl, hb1⟩ := hp
    refine aw_if_eq (n := 70) (t := 135) d_Mod_cut_67 rfl (by decide) (fun c5 => ?_) (fun c5 => ?_)
    · rw [if_pos c5] at hJ
      refine aw_aload_n (n := 136) d_Mod_cut_135 rfl rfl 3 rfl ?_
      refine aw_iload_n (n := 137) d_Mod_cut_136 rfl rfl 5 rfl ?_
      obtain ⟨r2, σ4, hc2, hJ⟩ := ax_bindE hJ
      refine aw_callVi (n := 140) (c_Mod_digit hc2) 0 rfl rfl Y_Mod_digit km_Mod_84 (by decide) (by decide) rfl rfl (Nat.le_of_ble_eq_true rfl) d_Mod_cut_137 rfl (fun r9 s9 hp => ?_)
      obtain ⟨rfl, rfl, hb2⟩ := hp
      refine aw_if_eq (n := 143) (t := 238) d_Mod_cut_140 rfl (by decide) (fun c6 => ?_) (fun c6 => ?_)
      · rw [if_pos c6] at hJ
        obtain ⟨v3, ev3, hJ⟩ := ax_letE hJ
        refine aw_iinc (n := 241) (j := 2) (v := v3) d_Mod_cut_238 rfl rfl (ev3) (by decide) rfl ?_
        refine aw_aload_n (n := 242) d_Mod_cut_241 rfl rfl 3 rfl ?_
        refine gf_Mod_text (n := 245) d_Mod_cut_242 rfl kf_Mod_7 ?_
        refine aw_iload_n (n := 246) d_Mod_cut_245 rfl rfl 5 rfl ?_
        obtain ⟨h3, hJ⟩ := ax_need hJ
        refine al_33 (n := 247) d_Mod_cut_246 rfl h3 ?_
        obtain ⟨r3, σ5, hc3, hJ⟩ := ax_bindE hJ
        refine aw_callSi (n := 250) (c_Mod_sign hc3) Y_Mod_sign km_Mod_90 (by decide) (by decide) rfl rfl (Nat.le_of_ble_eq_true rfl) d_Mod_cut_247 rfl (fun r9 s9 hp => ?_)
        obtain ⟨rfl, rfl, hb3⟩ := hp
        refine aw_if_eq (n := 253) (t := 262) d_Mod_cut_250 rfl (by decide) (fun c7 => ?_) (fun c7 => ?_)
        · rw [if_pos c7] at hJ
          refine aw_iconst (n := 263) (v := 0) d_Mod_cut_262 rfl (by decide) ?_
          refine aw_sub [3, 4, 5, 6, 0, 1] rfl ?_
          exact t_Mod_cut_263 x A hK12 _ _ _ _ _ _ _ hJ
        · rw [if_neg c7] at hJ
          refine aw_aload_n (n := 254) d_Mod_cut_253 rfl rfl 3 rfl ?_
          refine gf_Mod_text (n := 257) d_Mod_cut_254 rfl kf_Mod_7 ?_
          refine aw_iload_n (n := 258) d_Mod_cut_257 rfl rfl 5 rfl ?_
          obtain ⟨h4, hJ⟩ := ax_need hJ
          refine al_33 (n := 259) d_Mod_cut_258 rfl h4 ?_
          refine aw_goto (t := 263) d_Mod_cut_259 (by decide) ?_
          refine aw_sub [3, 4, 5, 6, 0, 1] rfl ?_
          exact t_Mod_cut_263 x A hK12 _ _ _ _ _ _ _ hJ
      · rw [if_neg c6] at hJ
        refine aw_sub [3, 4, 5, 6, 2] rfl ?_
        exact t_Mod_cut_143 x A hK12 N _ _ _ _ _ hJ
    · rw [if_neg c5] at hJ
      refine aw_sub [3, 4, 5, 6, 2, 0] rfl ?_
      exact t_Mod_cut_70 x A hK12 N _ _ _ _ _ _ hJ
  · rw [if_neg c4] at hJ
    refine aw_goto (t := 317) d_Mod_cut_50 (by decide) ?_
    refine aw_sub [0, 1, 3] rfl ?_
    exact t_Mod_cut_317 x A _ _ _ hJ
set_option maxHeartbeats 1000000 in
theorem t_Mod_cut_17 {N : Nat} {g : ax_G} {s9 : St} (x : ax_X) (A : Nat → Prop) {K12 : Int32 → Int32 → Int32 → Int32 → St → Option St} (hK12 : ∀ (l1 : Int32) (l2 : Int32) (l3 : Int32) (l4 : Int32) (σ : St), K12 l1 l2 l3 l4 σ = some s9 → AW x μ_Mod_cut g A (wM g) (0, 0) (ax_QV x μ_Mod_cut g A (wM g) (ax_eqV s9)) 12 [(0, .ref (g.2.1 32)), (1, .int l1), (2, .int l2), (3, .int l3), (4, .int l4)] [] σ) : ∀ (n : Nat) (l1 : Int32) (l2 : Int32) (l3 : Int32) (σ : St), J_Mod_cut_17 N K12 n l1 l2 l3 σ = some s9 → AW x μ_Mod_cut g A (wM g) (0, 0) (ax_QV x μ_Mod_cut g A (wM g) (ax_eqV s9)) 17 [(0, .ref (g.2.1 32)), (1, .int l1), (2, .int l2), (3, .int l3)] [] σ := by
  intro n
  induction n with
  | zero => intro l1 l2 l3 σ hJ; rw [J_Mod_cut_17] at hJ; cases hJ
  | succ n ih =>
    intro l1 l2 l3 σ hJ
    rw [J_Mod_cut_17] at hJ
    refine aw_iload_n (n := 18) d_Mod_cut_17 rfl rfl 2 rfl ?_
    refine aw_aload_n (n := 19) d_Mod_cut_18 rfl rfl 0 rfl ?_
    refine gf_Mod_length (n := 22) d_Mod_cut_19 rfl kf_Mod_66 ?_
    refine aw_icmp_ge (n := 25) (t := 42) d_Mod_cut_22 rfl (by decide) (fun c2 => ?_) (fun c2 => ?_)
    · rw [if_pos c2] at hJ
      exact t_Mod_cut_42 x A hK12 _ _ _ _ hJ
    · rw [if_neg c2] at hJ
      refine aw_aload_n (n := 26) d_Mod_cut_25 rfl rfl 0 rfl ?_
      refine gf_Mod_text (n := 29) d_Mod_cut_26 rfl kf_Mod_7 ?_
      refine aw_iload_n (n := 30) d_Mod_cut_29 rfl rfl 2 rfl ?_
      obtain ⟨h2, hJ⟩ := ax_need hJ
      refine al_33 (n := 31) d_Mod_cut_30 rfl h2 ?_
      refine aw_bipush (n := 33) (v := 32) d_Mod_cut_31 rfl (by decide) ?_
      refine aw_icmp_ne (n := 36) (t := 42) d_Mod_cut_33 rfl (by decide) (fun c3 => ?_) (fun c3 => ?_)
      · rw [if_neg c3] at hJ
        exact t_Mod_cut_42 x A hK12 _ _ _ _ hJ
      · rw [if_pos c3] at hJ
        obtain ⟨v2, ev2, hJ⟩ := ax_letE hJ
        refine aw_iinc (n := 39) (j := 2) (v := v2) d_Mod_cut_36 rfl rfl (ev2) (by decide) rfl ?_
        refine aw_goto (t := 17) d_Mod_cut_39 (by decide) ?_
        refine aw_sub [1, 2, 0, 3] rfl ?_
        exact ih _ _ _ _ hJ
set_option maxHeartbeats 1000000 in
theorem t_Mod_cut_12 {N : Nat} {g : ax_G} {s9 : St} (x : ax_X) (A : Nat → Prop) : ∀ (n : Nat) (l1 : Int32) (l2 : Int32) (l3 : Int32) (l4 : Int32) (σ : St), J_Mod_cut_12 N n l1 l2 l3 l4 σ = some s9 → AW x μ_Mod_cut g A (wM g) (0, 0) (ax_QV x μ_Mod_cut g A (wM g) (ax_eqV s9)) 12 [(0, .ref (g.2.1 32)), (1, .int l1), (2, .int l2), (3, .int l3), (4, .int l4)] [] σ := by
  intro n
  induction n with
  | zero => intro l1 l2 l3 l4 σ hJ; rw [J_Mod_cut_12] at hJ; cases hJ
  | succ n ih =>
    intro l1 l2 l3 l4 σ hJ
    rw [J_Mod_cut_12] at hJ
    refine aw_iload (n := 14) d_Mod_cut_12 rfl 4 rfl ?_
    refine aw_if_eq (n := 17) (t := 317) d_Mod_cut_14 rfl (by decide) (fun c1 => ?_) (fun c1 => ?_)
    · rw [if_pos c1] at hJ
      refine aw_sub [0, 1, 3] rfl ?_
      exact t_Mod_cut_317 x A _ _ _ hJ
    · rw [if_neg c1] at hJ
      refine aw_sub [0, 1, 2, 3] rfl ?_
      exact t_Mod_cut_17 x A ih N _ _ _ _ hJ
set_option maxHeartbeats 1000000 in
theorem c_Mod_cut {N : Nat} {g : ax_G} {σ : St} {s9 : St} (hJ : J_Mod_cut N σ = some s9) : ax_CV μ_Mod_cut g y_Mod_cut (wM g) [.ref (g.2.1 32)] σ (ax_eqV s9) := by
  refine ax_CV.of (plainFor_of_name rfl) rfl (Nat.le_of_ble_eq_true rfl) (fun x A _ => ?_)
  show AW x μ_Mod_cut g A (wM g) (0, 0) (ax_QV x μ_Mod_cut g A (wM g) (ax_eqV s9)) 0 [(0, .ref (g.2.1 32))] [] σ
  rw [J_Mod_cut] at hJ
  refine aw_iconst (n := 1) (v := 0) d_Mod_cut_0 rfl (by decide) ?_
  refine aw_istore_n (n := 2) d_Mod_cut_1 rfl rfl (by decide) rfl ?_
  refine aw_iconst (n := 3) (v := 0) d_Mod_cut_2 rfl (by decide) ?_
  refine aw_istore_n (n := 4) d_Mod_cut_3 rfl rfl (by decide) rfl ?_
  refine aw_aload_n (n := 5) d_Mod_cut_4 rfl rfl 2 rfl ?_
  refine gf_Mod_names (n := 8) d_Mod_cut_5 rfl kf_Mod_69 ?_
  obtain ⟨v1, ev1, hJ⟩ := ax_letE hJ
  refine aw_top ev1 ?_
  refine aw_istore_n (n := 9) d_Mod_cut_8 rfl rfl (by decide) rfl ?_
  refine aw_iconst (n := 10) (v := 1) d_Mod_cut_9 rfl (by decide) ?_
  refine aw_istore (n := 12) d_Mod_cut_10 rfl (by decide) rfl ?_
  refine aw_sub [4, 3, 2, 1, 0] rfl ?_
  exact t_Mod_cut_12 x A N _ _ _ _ _ hJ
abbrev b_Mod_wants : ByteArray := prog_10_method_10_code
def y_Mod_wants : MethodName := ⟨"DotConsoleModel", "wants", "(I)I"⟩
theorem d_Mod_wants_0 : decode b_Mod_wants 0 = .ok (.iload_n 0, 1) := by decide +kernel
theorem d_Mod_wants_1 : decode b_Mod_wants 1 = .ok (.tableswitch 59 10 18 #[51, 59, 51, 59, 51, 53, 55, 55, 57], 51) := by decide +kernel
theorem d_Mod_wants_52 : decode b_Mod_wants 52 = .ok (.iconst 1, 1) := by decide +kernel
theorem d_Mod_wants_53 : decode b_Mod_wants 53 = .ok (.ireturn, 1) := by decide +kernel
theorem d_Mod_wants_54 : decode b_Mod_wants 54 = .ok (.iconst 3, 1) := by decide +kernel
theorem d_Mod_wants_55 : decode b_Mod_wants 55 = .ok (.ireturn, 1) := by decide +kernel
theorem d_Mod_wants_56 : decode b_Mod_wants 56 = .ok (.iconst 5, 1) := by decide +kernel
theorem d_Mod_wants_57 : decode b_Mod_wants 57 = .ok (.ireturn, 1) := by decide +kernel
theorem d_Mod_wants_58 : decode b_Mod_wants 58 = .ok (.iconst 2, 1) := by decide +kernel
theorem d_Mod_wants_59 : decode b_Mod_wants 59 = .ok (.ireturn, 1) := by decide +kernel
theorem d_Mod_wants_60 : decode b_Mod_wants 60 = .ok (.iconst 0, 1) := by decide +kernel
theorem d_Mod_wants_61 : decode b_Mod_wants 61 = .ok (.ireturn, 1) := by decide +kernel
def μ_Mod_wants : ax_M := (b_Mod_wants, 1, "DotConsoleModel", (some .int), 0, 0, 0, 0)
theorem Y_Mod_wants : ax_YS μ_Mod_wants y_Mod_wants 1 := ⟨⟨ax_mem (by decide +kernel) rfl, ax_mem (by decide +kernel) rfl, by decide, by decide, by decide +kernel⟩, ax_mem (by decide +kernel) rfl⟩
def J_Mod_wants (N : Nat) (a0 : Int32) (σ : St) : Option (Int32 × St) :=
  (if a0 = 10 then some (1, σ)
  else (if a0 = 11 then some (0, σ)
  else (if a0 = 12 then some (1, σ)
  else (if a0 = 13 then some (0, σ)
  else (if a0 = 14 then some (1, σ)
  else (if a0 = 15 then some (3, σ)
  else (if a0 = 16 then some (5, σ)
  else (if a0 = 17 then some (5, σ)
  else (if a0 = 18 then some (2, σ)
  else some (0, σ))))))))))
set_option maxHeartbeats 1000000 in
theorem c_Mod_wants {N : Nat} {g : ax_G} {a0 : Int32} {σ : St} {r9 : Int32} {s9 : St} (hJ : J_Mod_wants N a0 σ = some (r9, s9)) : ax_CI μ_Mod_wants g y_Mod_wants (wM g) [.int a0] σ (ax_eqI r9 s9) := by
  refine ax_CI.of (plainFor_of_name rfl) rfl (Nat.le_of_ble_eq_true rfl) (fun x A _ => ?_)
  show AW x μ_Mod_wants g A (wM g) (0, 0) (ax_QI x μ_Mod_wants g A (wM g) (ax_eqI r9 s9)) 0 [(0, .int a0)] [] σ
  rw [J_Mod_wants] at hJ
  refine aw_iload_n (n := 1) d_Mod_wants_0 rfl rfl 0 rfl ?_
  rcases ax_ifE hJ with ⟨c1, hJ⟩ | ⟨c1, hJ⟩
  · refine aw_tableIn (t := 52) (off := 51) d_Mod_wants_1 (by rw [c1]; decide) (by rw [c1]; decide) (by first | (rw [c1]; done) | (rw [c1]; decide)) (by decide) ?_
    refine aw_iconst (n := 53) (v := 1) d_Mod_wants_52 rfl (by decide) ?_
    exact aw_iret d_Mod_wants_53 rfl (ax_ret hJ)
  rcases ax_ifE hJ with ⟨c2, hJ⟩ | ⟨c2, hJ⟩
  · refine aw_tableIn (t := 60) (off := 59) d_Mod_wants_1 (by rw [c2]; decide) (by rw [c2]; decide) (by first | (rw [c2]; done) | (rw [c2]; decide)) (by decide) ?_
    refine aw_iconst (n := 61) (v := 0) d_Mod_wants_60 rfl (by decide) ?_
    exact aw_iret d_Mod_wants_61 rfl (ax_ret hJ)
  rcases ax_ifE hJ with ⟨c3, hJ⟩ | ⟨c3, hJ⟩
  · refine aw_tableIn (t := 52) (off := 51) d_Mod_wants_1 (by rw [c3]; decide) (by rw [c3]; decide) (by first | (rw [c3]; done) | (rw [c3]; decide)) (by decide) ?_
    refine aw_iconst (n := 53) (v := 1) d_Mod_wants_52 rfl (by decide) ?_
    exact aw_iret d_Mod_wants_53 rfl (ax_ret hJ)
  rcases ax_ifE hJ with ⟨c4, hJ⟩ | ⟨c4, hJ⟩
  · refine aw_tableIn (t := 60) (off := 59) d_Mod_wants_1 (by rw [c4]; decide) (by rw [c4]; decide) (by first | (rw [c4]; done) | (rw [c4]; decide)) (by decide) ?_
    refine aw_iconst (n := 61) (v := 0) d_Mod_wants_60 rfl (by decide) ?_
    exact aw_iret d_Mod_wants_61 rfl (ax_ret hJ)
  rcases ax_ifE hJ with ⟨c5, hJ⟩ | ⟨c5, hJ⟩
  · refine aw_tableIn (t := 52) (off := 51) d_Mod_wants_1 (by rw [c5]; decide) (by rw [c5]; decide) (by first | (rw [c5]; done) | (rw [c5]; decide)) (by decide) ?_
    refine aw_iconst (n := 53) (v := 1) d_Mod_wants_52 rfl (by decide) ?_
    exact aw_iret d_Mod_wants_53 rfl (ax_ret hJ)
  rcases ax_ifE hJ with ⟨c6, hJ⟩ | ⟨c6, hJ⟩
  · refine aw_tableIn (t := 54) (off := 53) d_Mod_wants_1 (by rw [c6]; decide) (by rw [c6]; decide) (by first | (rw [c6]; done) | (rw [c6]; decide)) (by decide) ?_
    refine aw_iconst (n := 55) (v := 3) d_Mod_wants_54 rfl (by decide) ?_
    exact aw_iret d_Mod_wants_55 rfl (ax_ret hJ)
  rcases ax_ifE hJ with ⟨c7, hJ⟩ | ⟨c7, hJ⟩
  · refine aw_tableIn (t := 56) (off := 55) d_Mod_wants_1 (by rw [c7]; decide) (by rw [c7]; decide) (by first | (rw [c7]; done) | (rw [c7]; decide)) (by decide) ?_
    refine aw_iconst (n := 57) (v := 5) d_Mod_wants_56 rfl (by decide) ?_
    exact aw_iret d_Mod_wants_57 rfl (ax_ret hJ)
  rcases ax_ifE hJ with ⟨c8, hJ⟩ | ⟨c8, hJ⟩
  · refine aw_tableIn (t := 56) (off := 55) d_Mod_wants_1 (by rw [c8]; decide) (by rw [c8]; decide) (by first | (rw [c8]; done) | (rw [c8]; decide)) (by decide) ?_
    refine aw_iconst (n := 57) (v := 5) d_Mod_wants_56 rfl (by decide) ?_
    exact aw_iret d_Mod_wants_57 rfl (ax_ret hJ)
  rcases ax_ifE hJ with ⟨c9, hJ⟩ | ⟨c9, hJ⟩
  · refine aw_tableIn (t := 58) (off := 57) d_Mod_wants_1 (by rw [c9]; decide) (by rw [c9]; decide) (by first | (rw [c9]; done) | (rw [c9]; decide)) (by decide) ?_
    refine aw_iconst (n := 59) (v := 2) d_Mod_wants_58 rfl (by decide) ?_
    exact aw_iret d_Mod_wants_59 rfl (ax_ret hJ)
  have q0 := lv_neT (a := 10) c1 (by decide)
  have q1 := lv_neT (a := 11) c2 (by decide)
  have q2 := lv_neT (a := 12) c3 (by decide)
  have q3 := lv_neT (a := 13) c4 (by decide)
  have q4 := lv_neT (a := 14) c5 (by decide)
  have q5 := lv_neT (a := 15) c6 (by decide)
  have q6 := lv_neT (a := 16) c7 (by decide)
  have q7 := lv_neT (a := 17) c8 (by decide)
  have q8 := lv_neT (a := 18) c9 (by decide)
  refine aw_tableOut (t := 60) d_Mod_wants_1 (by omega) (by decide) ?_
  refine aw_iconst (n := 61) (v := 0) d_Mod_wants_60 rfl (by decide) ?_
  exact aw_iret d_Mod_wants_61 rfl (ax_ret hJ)
abbrev b_Mod_relation : ByteArray := prog_10_method_11_code
def y_Mod_relation : MethodName := ⟨"DotConsoleModel", "relation", "(I)Z"⟩
theorem d_Mod_relation_0 : decode b_Mod_relation 0 = .ok (.iload_n 0, 1) := by decide +kernel
theorem d_Mod_relation_1 : decode b_Mod_relation 1 = .ok (.bipush 60, 2) := by decide +kernel
theorem d_Mod_relation_3 : decode b_Mod_relation 3 = .ok (.if_icmp .eq 15, 3) := by decide +kernel
theorem d_Mod_relation_6 : decode b_Mod_relation 6 = .ok (.iload_n 0, 1) := by decide +kernel
theorem d_Mod_relation_7 : decode b_Mod_relation 7 = .ok (.bipush 62, 2) := by decide +kernel
theorem d_Mod_relation_9 : decode b_Mod_relation 9 = .ok (.if_icmp .eq 9, 3) := by decide +kernel
theorem d_Mod_relation_12 : decode b_Mod_relation 12 = .ok (.iload_n 0, 1) := by decide +kernel
theorem d_Mod_relation_13 : decode b_Mod_relation 13 = .ok (.bipush 61, 2) := by decide +kernel
theorem d_Mod_relation_15 : decode b_Mod_relation 15 = .ok (.if_icmp .ne 7, 3) := by decide +kernel
theorem d_Mod_relation_18 : decode b_Mod_relation 18 = .ok (.iconst 1, 1) := by decide +kernel
theorem d_Mod_relation_19 : decode b_Mod_relation 19 = .ok (.goto 4, 3) := by decide +kernel
theorem d_Mod_relation_22 : decode b_Mod_relation 22 = .ok (.iconst 0, 1) := by decide +kernel
theorem d_Mod_relation_23 : decode b_Mod_relation 23 = .ok (.ireturn, 1) := by decide +kernel
def μ_Mod_relation : ax_M := (b_Mod_relation, 1, "DotConsoleModel", (some .boolean), 0, 0, 0, 0)
theorem Y_Mod_relation : ax_YS μ_Mod_relation y_Mod_relation 1 := ⟨⟨ax_mem (by decide +kernel) rfl, ax_mem (by decide +kernel) rfl, by decide, by decide, by decide +kernel⟩, ax_mem (by decide +kernel) rfl⟩
def J_Mod_relation (N : Nat) (a0 : Int32) (σ : St) : Option (Int32 × St) :=
  (if a0 = 60 then
  some (1, σ)
  else (if a0 = 62 then
  some (1, σ)
  else (if a0 = 61 then
  some (1, σ)
  else some (0, σ))))
set_option maxHeartbeats 1000000 in
theorem c_Mod_relation {N : Nat} {g : ax_G} {a0 : Int32} {σ : St} {r9 : Int32} {s9 : St} (hJ : J_Mod_relation N a0 σ = some (r9, s9)) : ax_CI μ_Mod_relation g y_Mod_relation (wM g) [.int a0] σ (ax_eqZ r9 s9) := by
  refine ax_CI.of (plainFor_of_name rfl) rfl (Nat.le_of_ble_eq_true rfl) (fun x A _ => ?_)
  show AW x μ_Mod_relation g A (wM g) (0, 0) (ax_QI x μ_Mod_relation g A (wM g) (ax_eqZ r9 s9)) 0 [(0, .int a0)] [] σ
  rw [J_Mod_relation] at hJ
  refine aw_iload_n (n := 1) d_Mod_relation_0 rfl rfl 0 rfl ?_
  refine aw_bipush (n := 3) (v := 60) d_Mod_relation_1 rfl (by decide) ?_
  refine aw_icmp_eq (n := 6) (t := 18) d_Mod_relation_3 rfl (by decide) (fun c1 => ?_) (fun c1 => ?_)
  · rw [if_pos c1] at hJ
    refine aw_iconst (n := 19) (v := 1) d_Mod_relation_18 rfl (by decide) ?_
    refine aw_goto (t := 23) d_Mod_relation_19 (by decide) ?_
    exact aw_zret d_Mod_relation_23 rfl rfl (ax_retZ hJ rfl)
  · rw [if_neg c1] at hJ
    refine aw_iload_n (n := 7) d_Mod_relation_6 rfl rfl 0 rfl ?_
    refine aw_bipush (n := 9) (v := 62) d_Mod_relation_7 rfl (by decide) ?_
    refine aw_icmp_eq (n := 12) (t := 18) d_Mod_relation_9 rfl (by decide) (fun c2 => ?_) (fun c2 => ?_)
    · rw [if_pos c2] at hJ
      refine aw_iconst (n := 19) (v := 1) d_Mod_relation_18 rfl (by decide) ?_
      refine aw_goto (t := 23) d_Mod_relation_19 (by decide) ?_
      exact aw_zret d_Mod_relation_23 rfl rfl (ax_retZ hJ rfl)
    · rw [if_neg c2] at hJ
      refine aw_iload_n (n := 13) d_Mod_relation_12 rfl rfl 0 rfl ?_
      refine aw_bipush (n := 15) (v := 61) d_Mod_relation_13 rfl (by decide) ?_
      refine aw_icmp_ne (n := 18) (t := 22) d_Mod_relation_15 rfl (by decide) (fun c3 => ?_) (fun c3 => ?_)
      · rw [if_neg c3] at hJ
        refine aw_iconst (n := 23) (v := 0) d_Mod_relation_22 rfl (by decide) ?_
        exact aw_zret d_Mod_relation_23 rfl rfl (ax_retZ hJ rfl)
      · rw [if_pos c3] at hJ
        refine aw_iconst (n := 19) (v := 1) d_Mod_relation_18 rfl (by decide) ?_
        refine aw_goto (t := 23) d_Mod_relation_19 (by decide) ?_
        exact aw_zret d_Mod_relation_23 rfl rfl (ax_retZ hJ rfl)
abbrev b_Mod_level : ByteArray := prog_10_method_12_code
def y_Mod_level : MethodName := ⟨"DotConsoleModel", "level", "(I)I"⟩
theorem d_Mod_level_0 : decode b_Mod_level 0 = .ok (.iload_n 0, 1) := by decide +kernel
theorem d_Mod_level_1 : decode b_Mod_level 1 = .ok (.bipush 124, 2) := by decide +kernel
theorem d_Mod_level_3 : decode b_Mod_level 3 = .ok (.if_icmp .ne 5, 3) := by decide +kernel
theorem d_Mod_level_6 : decode b_Mod_level 6 = .ok (.iconst 1, 1) := by decide +kernel
theorem d_Mod_level_7 : decode b_Mod_level 7 = .ok (.ireturn, 1) := by decide +kernel
theorem d_Mod_level_8 : decode b_Mod_level 8 = .ok (.iload_n 0, 1) := by decide +kernel
theorem d_Mod_level_9 : decode b_Mod_level 9 = .ok (.bipush 38, 2) := by decide +kernel
theorem d_Mod_level_11 : decode b_Mod_level 11 = .ok (.if_icmp .ne 5, 3) := by decide +kernel
theorem d_Mod_level_14 : decode b_Mod_level 14 = .ok (.iconst 2, 1) := by decide +kernel
theorem d_Mod_level_15 : decode b_Mod_level 15 = .ok (.ireturn, 1) := by decide +kernel
theorem d_Mod_level_16 : decode b_Mod_level 16 = .ok (.iload_n 0, 1) := by decide +kernel
theorem d_Mod_level_17 : decode b_Mod_level 17 = .ok (.invokestatic 100, 3) := by decide +kernel
theorem d_Mod_level_20 : decode b_Mod_level 20 = .ok (.ifCond .eq 5, 3) := by decide +kernel
theorem d_Mod_level_23 : decode b_Mod_level 23 = .ok (.iconst 3, 1) := by decide +kernel
theorem d_Mod_level_24 : decode b_Mod_level 24 = .ok (.ireturn, 1) := by decide +kernel
theorem d_Mod_level_25 : decode b_Mod_level 25 = .ok (.iload_n 0, 1) := by decide +kernel
theorem d_Mod_level_26 : decode b_Mod_level 26 = .ok (.bipush 43, 2) := by decide +kernel
theorem d_Mod_level_28 : decode b_Mod_level 28 = .ok (.if_icmp .eq 9, 3) := by decide +kernel
theorem d_Mod_level_31 : decode b_Mod_level 31 = .ok (.iload_n 0, 1) := by decide +kernel
theorem d_Mod_level_32 : decode b_Mod_level 32 = .ok (.bipush 45, 2) := by decide +kernel
theorem d_Mod_level_34 : decode b_Mod_level 34 = .ok (.if_icmp .ne 5, 3) := by decide +kernel
theorem d_Mod_level_37 : decode b_Mod_level 37 = .ok (.iconst 4, 1) := by decide +kernel
theorem d_Mod_level_38 : decode b_Mod_level 38 = .ok (.ireturn, 1) := by decide +kernel
theorem d_Mod_level_39 : decode b_Mod_level 39 = .ok (.iload_n 0, 1) := by decide +kernel
theorem d_Mod_level_40 : decode b_Mod_level 40 = .ok (.bipush 42, 2) := by decide +kernel
theorem d_Mod_level_42 : decode b_Mod_level 42 = .ok (.if_icmp .eq 15, 3) := by decide +kernel
theorem d_Mod_level_45 : decode b_Mod_level 45 = .ok (.iload_n 0, 1) := by decide +kernel
theorem d_Mod_level_46 : decode b_Mod_level 46 = .ok (.bipush 47, 2) := by decide +kernel
theorem d_Mod_level_48 : decode b_Mod_level 48 = .ok (.if_icmp .eq 9, 3) := by decide +kernel
theorem d_Mod_level_51 : decode b_Mod_level 51 = .ok (.iload_n 0, 1) := by decide +kernel
theorem d_Mod_level_52 : decode b_Mod_level 52 = .ok (.bipush 37, 2) := by decide +kernel
theorem d_Mod_level_54 : decode b_Mod_level 54 = .ok (.if_icmp .ne 7, 3) := by decide +kernel
theorem d_Mod_level_57 : decode b_Mod_level 57 = .ok (.iconst 5, 1) := by decide +kernel
theorem d_Mod_level_58 : decode b_Mod_level 58 = .ok (.goto 4, 3) := by decide +kernel
theorem d_Mod_level_61 : decode b_Mod_level 61 = .ok (.iconst 0, 1) := by decide +kernel
theorem d_Mod_level_62 : decode b_Mod_level 62 = .ok (.ireturn, 1) := by decide +kernel
def μ_Mod_level : ax_M := (b_Mod_level, 1, "DotConsoleModel", (some .int), 1, 20, 0, 0)
theorem Y_Mod_level : ax_YS μ_Mod_level y_Mod_level 1 := ⟨⟨ax_mem (by decide +kernel) rfl, ax_mem (by decide +kernel) rfl, by decide, by decide, by decide +kernel⟩, ax_mem (by decide +kernel) rfl⟩
theorem km_Mod_100 : Cond.methodLink "DotConsoleModel" 100 ⟨"DotConsoleModel", "relation", "(I)Z"⟩ ∈ ax_T := ax_mem (by decide +kernel) rfl
def J_Mod_level (N : Nat) (a0 : Int32) (σ : St) : Option (Int32 × St) :=
  (if a0 = 124 then
  some (1, σ)
  else (if a0 = 38 then
  some (2, σ)
  else ax_bind (J_Mod_relation N a0 σ) (fun r1 σ1 =>
  (if r1 = 0 then
  (if a0 = 43 then
  some (4, σ1)
  else (if a0 = 45 then
  some (4, σ1)
  else (if a0 = 42 then
  some (5, σ1)
  else (if a0 = 47 then
  some (5, σ1)
  else (if a0 = 37 then
  some (5, σ1)
  else some (0, σ1))))))
  else some (3, σ1)))))
set_option maxHeartbeats 1000000 in
theorem c_Mod_level {N : Nat} {g : ax_G} {a0 : Int32} {σ : St} {r9 : Int32} {s9 : St} (hJ : J_Mod_level N a0 σ = some (r9, s9)) : ax_CI μ_Mod_level g y_Mod_level (wM g) [.int a0] σ (ax_eqI r9 s9) := by
  refine ax_CI.of (plainFor_of_name rfl) rfl (Nat.le_of_ble_eq_true rfl) (fun x A _ => ?_)
  show AW x μ_Mod_level g A (wM g) (0, 0) (ax_QI x μ_Mod_level g A (wM g) (ax_eqI r9 s9)) 0 [(0, .int a0)] [] σ
  rw [J_Mod_level] at hJ
  refine aw_iload_n (n := 1) d_Mod_level_0 rfl rfl 0 rfl ?_
  refine aw_bipush (n := 3) (v := 124) d_Mod_level_1 rfl (by decide) ?_
  refine aw_icmp_ne (n := 6) (t := 8) d_Mod_level_3 rfl (by decide) (fun c1 => ?_) (fun c1 => ?_)
  · rw [if_neg c1] at hJ
    refine aw_iload_n (n := 9) d_Mod_level_8 rfl rfl 0 rfl ?_
    refine aw_bipush (n := 11) (v := 38) d_Mod_level_9 rfl (by decide) ?_
    refine aw_icmp_ne (n := 14) (t := 16) d_Mod_level_11 rfl (by decide) (fun c2 => ?_) (fun c2 => ?_)
    · rw [if_neg c2] at hJ
      refine aw_iload_n (n := 17) d_Mod_level_16 rfl rfl 0 rfl ?_
      obtain ⟨r1, σ1, hc1, hJ⟩ := ax_bindE hJ
      refine aw_callSi (n := 20) (c_Mod_relation hc1) Y_Mod_relation km_Mod_100 (by decide) (by decide) rfl rfl (Nat.le_of_ble_eq_true rfl) d_Mod_level_17 rfl (fun r9 s9 hp => ?_)
      obtain ⟨rfl, rfl, hb1⟩ := hp
      refine aw_if_eq (n := 23) (t := 25) d_Mod_level_20 rfl (by decide) (fun c3 => ?_) (fun c3 => ?_)
      · rw [if_pos c3] at hJ
        refine aw_iload_n (n := 26) d_Mod_level_25 rfl rfl 0 rfl ?_
        refine aw_bipush (n := 28) (v := 43) d_Mod_level_26 rfl (by decide) ?_
        refine aw_icmp_eq (n := 31) (t := 37) d_Mod_level_28 rfl (by decide) (fun c4 => ?_) (fun c4 => ?_)
        · rw [if_pos c4] at hJ
          refine aw_iconst (n := 38) (v := 4) d_Mod_level_37 rfl (by decide) ?_
          exact aw_iret d_Mod_level_38 rfl (ax_ret hJ)
        · rw [if_neg c4] at hJ
          refine aw_iload_n (n := 32) d_Mod_level_31 rfl rfl 0 rfl ?_
          refine aw_bipush (n := 34) (v := 45) d_Mod_level_32 rfl (by decide) ?_
          refine aw_icmp_ne (n := 37) (t := 39) d_Mod_level_34 rfl (by decide) (fun c5 => ?_) (fun c5 => ?_)
          · rw [if_neg c5] at hJ
            refine aw_iload_n (n := 40) d_Mod_level_39 rfl rfl 0 rfl ?_
            refine aw_bipush (n := 42) (v := 42) d_Mod_level_40 rfl (by decide) ?_
            refine aw_icmp_eq (n := 45) (t := 57) d_Mod_level_42 rfl (by decide) (fun c6 => ?_) (fun c6 => ?_)
            · rw [if_pos c6] at hJ
              refine aw_iconst (n := 58) (v := 5) d_Mod_level_57 rfl (by decide) ?_
              refine aw_goto (t := 62) d_Mod_level_58 (by decide) ?_
              exact aw_iret d_Mod_level_62 rfl (ax_ret hJ)
            · rw [if_neg c6] at hJ
              refine aw_iload_n (n := 46) d_Mod_level_45 rfl rfl 0 rfl ?_
              refine aw_bipush (n := 48) (v := 47) d_Mod_level_46 rfl (by decide) ?_
              refine aw_icmp_eq (n := 51) (t := 57) d_Mod_level_48 rfl (by decide) (fun c7 => ?_) (fun c7 => ?_)
              · rw [if_pos c7] at hJ
                refine aw_iconst (n := 58) (v := 5) d_Mod_level_57 rfl (by decide) ?_
                refine aw_goto (t := 62) d_Mod_level_58 (by decide) ?_
                exact aw_iret d_Mod_level_62 rfl (ax_ret hJ)
              · rw [if_neg c7] at hJ
                refine aw_iload_n (n := 52) d_Mod_level_51 rfl rfl 0 rfl ?_
                refine aw_bipush (n := 54) (v := 37) d_Mod_level_52 rfl (by decide) ?_
                refine aw_icmp_ne (n := 57) (t := 61) d_Mod_level_54 rfl (by decide) (fun c8 => ?_) (fun c8 => ?_)
                · rw [if_neg c8] at hJ
                  refine aw_iconst (n := 62) (v := 0) d_Mod_level_61 rfl (by decide) ?_
                  exact aw_iret d_Mod_level_62 rfl (ax_ret hJ)
                · rw [if_pos c8] at hJ
                  refine aw_iconst (n := 58) (v := 5) d_Mod_level_57 rfl (by decide) ?_
                  refine aw_goto (t := 62) d_Mod_level_58 (by decide) ?_
                  exact aw_iret d_Mod_level_62 rfl (ax_ret hJ)
          · rw [if_pos c5] at hJ
            refine aw_iconst (n := 38) (v := 4) d_Mod_level_37 rfl (by decide) ?_
            exact aw_iret d_Mod_level_38 rfl (ax_ret hJ)
      · rw [if_neg c3] at hJ
        refine aw_iconst (n := 24) (v := 3) d_Mod_level_23 rfl (by decide) ?_
        exact aw_iret d_Mod_level_24 rfl (ax_ret hJ)
    · rw [if_pos c2] at hJ
      refine aw_iconst (n := 15) (v := 2) d_Mod_level_14 rfl (by decide) ?_
      exact aw_iret d_Mod_level_15 rfl (ax_ret hJ)
  · rw [if_pos c1] at hJ
    refine aw_iconst (n := 7) (v := 1) d_Mod_level_6 rfl (by decide) ?_
    exact aw_iret d_Mod_level_7 rfl (ax_ret hJ)
