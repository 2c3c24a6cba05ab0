/-! WALKED: Mod_builtIn, Mod_close. Printed by wip/whole/build.py. -/
abbrev b_Mod_builtIn : ByteArray := prog_10_method_24_code
def y_Mod_builtIn : MethodName := ⟨"DotConsoleModel", "builtIn", "(III)I"⟩
theorem d_Mod_builtIn_0 : decode b_Mod_builtIn 0 = .ok (.iload_n 2, 1) := by decide +kernel
theorem d_Mod_builtIn_1 : decode b_Mod_builtIn 1 = .ok (.bipush 16, 2) := by decide +kernel
theorem d_Mod_builtIn_3 : decode b_Mod_builtIn 3 = .ok (.ishr, 1) := by decide +kernel
theorem d_Mod_builtIn_4 : decode b_Mod_builtIn 4 = .ok (.istore 4, 2) := by decide +kernel
theorem d_Mod_builtIn_6 : decode b_Mod_builtIn 6 = .ok (.iload_n 1, 1) := by decide +kernel
theorem d_Mod_builtIn_7 : decode b_Mod_builtIn 7 = .ok (.tableswitch 199 20 26 #[41, 52, 58, 87, 142, 153, 164], 41) := by decide +kernel
theorem d_Mod_builtIn_48 : decode b_Mod_builtIn 48 = .ok (.iload_n 2, 1) := by decide +kernel
theorem d_Mod_builtIn_49 : decode b_Mod_builtIn 49 = .ok (.ifCond .ge 8, 3) := by decide +kernel
theorem d_Mod_builtIn_52 : decode b_Mod_builtIn 52 = .ok (.iload_n 2, 1) := by decide +kernel
theorem d_Mod_builtIn_53 : decode b_Mod_builtIn 53 = .ok (.ineg, 1) := by decide +kernel
theorem d_Mod_builtIn_54 : decode b_Mod_builtIn 54 = .ok (.goto 4, 3) := by decide +kernel
theorem d_Mod_builtIn_57 : decode b_Mod_builtIn 57 = .ok (.iload_n 2, 1) := by decide +kernel
theorem d_Mod_builtIn_58 : decode b_Mod_builtIn 58 = .ok (.ireturn, 1) := by decide +kernel
theorem d_Mod_builtIn_59 : decode b_Mod_builtIn 59 = .ok (.iload 4, 2) := by decide +kernel
theorem d_Mod_builtIn_61 : decode b_Mod_builtIn 61 = .ok (.ldc 97, 2) := by decide +kernel
theorem d_Mod_builtIn_63 : decode b_Mod_builtIn 63 = .ok (.imul, 1) := by decide +kernel
theorem d_Mod_builtIn_64 : decode b_Mod_builtIn 64 = .ok (.ireturn, 1) := by decide +kernel
theorem d_Mod_builtIn_65 : decode b_Mod_builtIn 65 = .ok (.iload 4, 2) := by decide +kernel
theorem d_Mod_builtIn_67 : decode b_Mod_builtIn 67 = .ok (.ifCond .lt 25, 3) := by decide +kernel
theorem d_Mod_builtIn_70 : decode b_Mod_builtIn 70 = .ok (.iload 4, 2) := by decide +kernel
theorem d_Mod_builtIn_72 : decode b_Mod_builtIn 72 = .ok (.bipush 6, 2) := by decide +kernel
theorem d_Mod_builtIn_74 : decode b_Mod_builtIn 74 = .ok (.if_icmp .ge 18, 3) := by decide +kernel
theorem d_Mod_builtIn_77 : decode b_Mod_builtIn 77 = .ok (.aload_n 0, 1) := by decide +kernel
theorem d_Mod_builtIn_78 : decode b_Mod_builtIn 78 = .ok (.getfield 48, 3) := by decide +kernel
theorem d_Mod_builtIn_81 : decode b_Mod_builtIn 81 = .ok (.iload 4, 2) := by decide +kernel
theorem d_Mod_builtIn_83 : decode b_Mod_builtIn 83 = .ok (.iaload, 1) := by decide +kernel
theorem d_Mod_builtIn_84 : decode b_Mod_builtIn 84 = .ok (.ifCond .le 8, 3) := by decide +kernel
theorem d_Mod_builtIn_87 : decode b_Mod_builtIn 87 = .ok (.ldc 97, 2) := by decide +kernel
theorem d_Mod_builtIn_89 : decode b_Mod_builtIn 89 = .ok (.goto 4, 3) := by decide +kernel
theorem d_Mod_builtIn_92 : decode b_Mod_builtIn 92 = .ok (.iconst 0, 1) := by decide +kernel
theorem d_Mod_builtIn_93 : decode b_Mod_builtIn 93 = .ok (.ireturn, 1) := by decide +kernel
theorem d_Mod_builtIn_94 : decode b_Mod_builtIn 94 = .ok (.iload 4, 2) := by decide +kernel
theorem d_Mod_builtIn_96 : decode b_Mod_builtIn 96 = .ok (.ifCond .lt 51, 3) := by decide +kernel
theorem d_Mod_builtIn_99 : decode b_Mod_builtIn 99 = .ok (.iload 4, 2) := by decide +kernel
theorem d_Mod_builtIn_101 : decode b_Mod_builtIn 101 = .ok (.bipush 6, 2) := by decide +kernel
theorem d_Mod_builtIn_103 : decode b_Mod_builtIn 103 = .ok (.if_icmp .ge 44, 3) := by decide +kernel
theorem d_Mod_builtIn_106 : decode b_Mod_builtIn 106 = .ok (.aload_n 0, 1) := by decide +kernel
theorem d_Mod_builtIn_107 : decode b_Mod_builtIn 107 = .ok (.getfield 48, 3) := by decide +kernel
theorem d_Mod_builtIn_110 : decode b_Mod_builtIn 110 = .ok (.iload 4, 2) := by decide +kernel
theorem d_Mod_builtIn_112 : decode b_Mod_builtIn 112 = .ok (.iaload, 1) := by decide +kernel
theorem d_Mod_builtIn_113 : decode b_Mod_builtIn 113 = .ok (.iconst 1, 1) := by decide +kernel
theorem d_Mod_builtIn_114 : decode b_Mod_builtIn 114 = .ok (.if_icmp .eq 28, 3) := by decide +kernel
theorem d_Mod_builtIn_117 : decode b_Mod_builtIn 117 = .ok (.aload_n 0, 1) := by decide +kernel
theorem d_Mod_builtIn_118 : decode b_Mod_builtIn 118 = .ok (.getfield 48, 3) := by decide +kernel
theorem d_Mod_builtIn_121 : decode b_Mod_builtIn 121 = .ok (.iload 4, 2) := by decide +kernel
theorem d_Mod_builtIn_123 : decode b_Mod_builtIn 123 = .ok (.iaload, 1) := by decide +kernel
theorem d_Mod_builtIn_124 : decode b_Mod_builtIn 124 = .ok (.bipush 9, 2) := by decide +kernel
theorem d_Mod_builtIn_126 : decode b_Mod_builtIn 126 = .ok (.if_icmp .lt 21, 3) := by decide +kernel
theorem d_Mod_builtIn_129 : decode b_Mod_builtIn 129 = .ok (.aload_n 0, 1) := by decide +kernel
theorem d_Mod_builtIn_130 : decode b_Mod_builtIn 130 = .ok (.getfield 48, 3) := by decide +kernel
theorem d_Mod_builtIn_133 : decode b_Mod_builtIn 133 = .ok (.iload 4, 2) := by decide +kernel
theorem d_Mod_builtIn_135 : decode b_Mod_builtIn 135 = .ok (.iaload, 1) := by decide +kernel
theorem d_Mod_builtIn_136 : decode b_Mod_builtIn 136 = .ok (.iconst 4, 1) := by decide +kernel
theorem d_Mod_builtIn_137 : decode b_Mod_builtIn 137 = .ok (.irem, 1) := by decide +kernel
theorem d_Mod_builtIn_138 : decode b_Mod_builtIn 138 = .ok (.iconst 1, 1) := by decide +kernel
theorem d_Mod_builtIn_139 : decode b_Mod_builtIn 139 = .ok (.if_icmp .ne 8, 3) := by decide +kernel
theorem d_Mod_builtIn_142 : decode b_Mod_builtIn 142 = .ok (.ldc 97, 2) := by decide +kernel
theorem d_Mod_builtIn_144 : decode b_Mod_builtIn 144 = .ok (.goto 4, 3) := by decide +kernel
theorem d_Mod_builtIn_147 : decode b_Mod_builtIn 147 = .ok (.iconst 0, 1) := by decide +kernel
theorem d_Mod_builtIn_148 : decode b_Mod_builtIn 148 = .ok (.ireturn, 1) := by decide +kernel
theorem d_Mod_builtIn_149 : decode b_Mod_builtIn 149 = .ok (.iload_n 2, 1) := by decide +kernel
theorem d_Mod_builtIn_150 : decode b_Mod_builtIn 150 = .ok (.iload_n 3, 1) := by decide +kernel
theorem d_Mod_builtIn_151 : decode b_Mod_builtIn 151 = .ok (.if_icmp .ge 7, 3) := by decide +kernel
theorem d_Mod_builtIn_154 : decode b_Mod_builtIn 154 = .ok (.iload_n 2, 1) := by decide +kernel
theorem d_Mod_builtIn_155 : decode b_Mod_builtIn 155 = .ok (.goto 4, 3) := by decide +kernel
theorem d_Mod_builtIn_158 : decode b_Mod_builtIn 158 = .ok (.iload_n 3, 1) := by decide +kernel
theorem d_Mod_builtIn_159 : decode b_Mod_builtIn 159 = .ok (.ireturn, 1) := by decide +kernel
theorem d_Mod_builtIn_160 : decode b_Mod_builtIn 160 = .ok (.iload_n 2, 1) := by decide +kernel
theorem d_Mod_builtIn_161 : decode b_Mod_builtIn 161 = .ok (.iload_n 3, 1) := by decide +kernel
theorem d_Mod_builtIn_162 : decode b_Mod_builtIn 162 = .ok (.if_icmp .le 7, 3) := by decide +kernel
theorem d_Mod_builtIn_165 : decode b_Mod_builtIn 165 = .ok (.iload_n 2, 1) := by decide +kernel
theorem d_Mod_builtIn_166 : decode b_Mod_builtIn 166 = .ok (.goto 4, 3) := by decide +kernel
theorem d_Mod_builtIn_169 : decode b_Mod_builtIn 169 = .ok (.iload_n 3, 1) := by decide +kernel
theorem d_Mod_builtIn_170 : decode b_Mod_builtIn 170 = .ok (.ireturn, 1) := by decide +kernel
theorem d_Mod_builtIn_171 : decode b_Mod_builtIn 171 = .ok (.iload 4, 2) := by decide +kernel
theorem d_Mod_builtIn_173 : decode b_Mod_builtIn 173 = .ok (.iload_n 3, 1) := by decide +kernel
theorem d_Mod_builtIn_174 : decode b_Mod_builtIn 174 = .ok (.bipush 16, 2) := by decide +kernel
theorem d_Mod_builtIn_176 : decode b_Mod_builtIn 176 = .ok (.ishr, 1) := by decide +kernel
theorem d_Mod_builtIn_177 : decode b_Mod_builtIn 177 = .ok (.invokestatic 175, 3) := by decide +kernel
theorem d_Mod_builtIn_180 : decode b_Mod_builtIn 180 = .ok (.ifCond .eq 24, 3) := by decide +kernel
theorem d_Mod_builtIn_183 : decode b_Mod_builtIn 183 = .ok (.ldc 97, 2) := by decide +kernel
theorem d_Mod_builtIn_185 : decode b_Mod_builtIn 185 = .ok (.aload_n 0, 1) := by decide +kernel
theorem d_Mod_builtIn_186 : decode b_Mod_builtIn 186 = .ok (.getfield 45, 3) := by decide +kernel
theorem d_Mod_builtIn_189 : decode b_Mod_builtIn 189 = .ok (.bipush 16, 2) := by decide +kernel
theorem d_Mod_builtIn_191 : decode b_Mod_builtIn 191 = .ok (.iload_n 3, 1) := by decide +kernel
theorem d_Mod_builtIn_192 : decode b_Mod_builtIn 192 = .ok (.bipush 16, 2) := by decide +kernel
theorem d_Mod_builtIn_194 : decode b_Mod_builtIn 194 = .ok (.ishr, 1) := by decide +kernel
theorem d_Mod_builtIn_195 : decode b_Mod_builtIn 195 = .ok (.imul, 1) := by decide +kernel
theorem d_Mod_builtIn_196 : decode b_Mod_builtIn 196 = .ok (.iload 4, 2) := by decide +kernel
theorem d_Mod_builtIn_198 : decode b_Mod_builtIn 198 = .ok (.iadd, 1) := by decide +kernel
theorem d_Mod_builtIn_199 : decode b_Mod_builtIn 199 = .ok (.iaload, 1) := by decide +kernel
theorem d_Mod_builtIn_200 : decode b_Mod_builtIn 200 = .ok (.imul, 1) := by decide +kernel
theorem d_Mod_builtIn_201 : decode b_Mod_builtIn 201 = .ok (.goto 4, 3) := by decide +kernel
theorem d_Mod_builtIn_204 : decode b_Mod_builtIn 204 = .ok (.iconst 0, 1) := by decide +kernel
theorem d_Mod_builtIn_205 : decode b_Mod_builtIn 205 = .ok (.ireturn, 1) := by decide +kernel
theorem d_Mod_builtIn_206 : decode b_Mod_builtIn 206 = .ok (.aload_n 0, 1) := by decide +kernel
theorem d_Mod_builtIn_207 : decode b_Mod_builtIn 207 = .ok (.aload_n 0, 1) := by decide +kernel
theorem d_Mod_builtIn_208 : decode b_Mod_builtIn 208 = .ok (.getfield 51, 3) := by decide +kernel
theorem d_Mod_builtIn_211 : decode b_Mod_builtIn 211 = .ok (.ldc 179, 2) := by decide +kernel
theorem d_Mod_builtIn_213 : decode b_Mod_builtIn 213 = .ok (.imul, 1) := by decide +kernel
theorem d_Mod_builtIn_214 : decode b_Mod_builtIn 214 = .ok (.sipush 12345, 3) := by decide +kernel
theorem d_Mod_builtIn_217 : decode b_Mod_builtIn 217 = .ok (.iadd, 1) := by decide +kernel
theorem d_Mod_builtIn_218 : decode b_Mod_builtIn 218 = .ok (.putfield 51, 3) := by decide +kernel
theorem d_Mod_builtIn_221 : decode b_Mod_builtIn 221 = .ok (.aload_n 0, 1) := by decide +kernel
theorem d_Mod_builtIn_222 : decode b_Mod_builtIn 222 = .ok (.getfield 51, 3) := by decide +kernel
theorem d_Mod_builtIn_225 : decode b_Mod_builtIn 225 = .ok (.bipush 16, 2) := by decide +kernel
theorem d_Mod_builtIn_227 : decode b_Mod_builtIn 227 = .ok (.iushr, 1) := by decide +kernel
theorem d_Mod_builtIn_228 : decode b_Mod_builtIn 228 = .ok (.i2l, 1) := by decide +kernel
theorem d_Mod_builtIn_229 : decode b_Mod_builtIn 229 = .ok (.iload_n 2, 1) := by decide +kernel
theorem d_Mod_builtIn_230 : decode b_Mod_builtIn 230 = .ok (.i2l, 1) := by decide +kernel
theorem d_Mod_builtIn_231 : decode b_Mod_builtIn 231 = .ok (.lmul, 1) := by decide +kernel
theorem d_Mod_builtIn_232 : decode b_Mod_builtIn 232 = .ok (.bipush 16, 2) := by decide +kernel
theorem d_Mod_builtIn_234 : decode b_Mod_builtIn 234 = .ok (.lshr, 1) := by decide +kernel
theorem d_Mod_builtIn_235 : decode b_Mod_builtIn 235 = .ok (.l2i, 1) := by decide +kernel
theorem d_Mod_builtIn_236 : decode b_Mod_builtIn 236 = .ok (.ireturn, 1) := by decide +kernel
def μ_Mod_builtIn : ax_M := (b_Mod_builtIn, 5, "DotConsoleModel", (some .int), 1, 21, 0, 0)
theorem Y_Mod_builtIn : ax_YV μ_Mod_builtIn y_Mod_builtIn 3 := ⟨⟨ax_mem (by decide +kernel) rfl, ax_mem (by decide +kernel) rfl, by decide, by decide, by decide +kernel⟩, ax_mem (by decide +kernel) rfl, ax_mem (by decide +kernel) rfl⟩
theorem kf_Mod_48 : Cond.fieldLink "DotConsoleModel" 48 "DotConsoleModel" "held" "[I" ∈ ax_T := ax_mem (by decide +kernel) rfl
theorem km_Mod_175 : Cond.methodLink "DotConsoleModel" 175 ⟨"DotConsoleModel", "seen", "(II)Z"⟩ ∈ ax_T := ax_mem (by decide +kernel) rfl
theorem kf_Mod_45 : Cond.fieldLink "DotConsoleModel" 45 "DotConsoleModel" "dots" "[I" ∈ ax_T := ax_mem (by decide +kernel) rfl
theorem kf_Mod_51 : Cond.fieldLink "DotConsoleModel" 51 "DotConsoleModel" "seed" "I" ∈ ax_T := ax_mem (by decide +kernel) rfl
theorem kc_Mod_179 : Cond.constant "DotConsoleModel" 179 (1103515245) ∈ ax_T := ax_mem (by decide +kernel) rfl
def J_Mod_builtIn (N : Nat) (a1 : Int32) (a2 : Int32) (a3 : Int32) (σ : St) : Option (Int32 × St) :=
  ax_let ((a2 >>> (16 &&& 31) : Int32) : Int32) (fun v1 =>
  (if a1 = 20 then (if 0 ≤ a2 then
  some (a2, σ)
  else some ((-a2), σ))
  else (if a1 = 21 then some ((v1 * 65536), σ)
  else (if a1 = 22 then (if v1 < 0 then
  some (0, σ)
  else (if 6 ≤ v1 then
  some (0, σ)
  else (if (inB v1 6) = true then (if (σ.2 11 v1.toNatClampNeg) ≤ 0 then
  some (0, σ)
  else some (65536, σ)) else none)))
  else (if a1 = 23 then (if v1 < 0 then
  some (0, σ)
  else (if 6 ≤ v1 then
  some (0, σ)
  else (if (inB v1 6) = true then (if (σ.2 11 v1.toNatClampNeg) = 1 then
  some (65536, σ)
  else (if (inB v1 6) = true then (if (σ.2 11 v1.toNatClampNeg) < 9 then
  some (0, σ)
  else (if (inB v1 6) = true then (if ((σ.2 11 v1.toNatClampNeg) - (σ.2 11 v1.toNatClampNeg) / 4 * 4) = 1 then
  some (65536, σ)
  else some (0, σ)) else none)) else none)) else none)))
  else (if a1 = 24 then (if a3 ≤ a2 then
  some (a3, σ)
  else some (a2, σ))
  else (if a1 = 25 then (if a2 ≤ a3 then
  some (a3, σ)
  else some (a2, σ))
  else (if a1 = 26 then ax_bind (J_Mod_seen N v1 (a3 >>> (16 &&& 31) : Int32) σ) (fun r1 σ1 =>
  (if r1 = 0 then
  some (0, σ1)
  else (if (inB (((16 : Int32) * (a3 >>> (16 &&& 31) : Int32)) + v1) 256) = true then some (((65536 : Int32) * (σ1.2 10 (((16 : Int32) * (a3 >>> (16 &&& 31) : Int32)) + v1).toNatClampNeg)), σ1) else none)))
  else ax_let (sF σ 5 (((σ.1 5) * 1103515245) + 12345)) (fun σ2 =>
  some ((((((((σ2.1 5).toUInt32 >>> ((16 : Int32).toUInt32 &&& Int32.toUInt32 31)).toInt32).toInt64) * (a2.toInt64)) >>> ((16 : Int32).toInt64 &&& 63)).toInt32), σ2))))))))))
set_option maxHeartbeats 1000000 in
theorem c_Mod_builtIn {N : Nat} {g : ax_G} {a1 : Int32} {a2 : Int32} {a3 : Int32} {σ : St} {r9 : Int32} {s9 : St} (hJ : J_Mod_builtIn N a1 a2 a3 σ = some (r9, s9)) : ax_CI μ_Mod_builtIn g y_Mod_builtIn (wM g) [.ref (g.2.1 32), .int a1, .int a2, .int a3] σ (ax_eqI r9 s9) := by
  refine ax_CI.of (plainFor_of_name rfl) rfl (Nat.le_of_ble_eq_true rfl) (fun x A _ => ?_)
  show AW x μ_Mod_builtIn g A (wM g) (0, 0) (ax_QI x μ_Mod_builtIn g A (wM g) (ax_eqI r9 s9)) 0 [(0, .ref (g.2.1 32)), (1, .int a1), (2, .int a2), (3, .int a3)] [] σ
  rw [J_Mod_builtIn] at hJ
  refine aw_iload_n (n := 1) d_Mod_builtIn_0 rfl rfl 2 rfl ?_
  refine aw_bipush (n := 3) (v := 16) d_Mod_builtIn_1 rfl (by decide) ?_
  refine aw_ishr (n := 4) d_Mod_builtIn_3 rfl ?_
  obtain ⟨v1, ev1, hJ⟩ := ax_letE hJ
  refine aw_top ev1 ?_
  refine aw_istore (n := 6) d_Mod_builtIn_4 rfl (by decide) rfl ?_
  refine aw_iload_n (n := 7) d_Mod_builtIn_6 rfl rfl 2 rfl ?_
  rcases ax_ifE hJ with ⟨c1, hJ⟩ | ⟨c1, hJ⟩
  · refine aw_tableIn (t := 48) (off := 41) d_Mod_builtIn_7 (by rw [c1]; decide) (by rw [c1]; decide) (by first | (rw [c1]; done) | (rw [c1]; decide)) (by decide) ?_
    refine aw_iload_n (n := 49) d_Mod_builtIn_48 rfl rfl 3 rfl ?_
    refine aw_if_ge (n := 52) (t := 57) d_Mod_builtIn_49 rfl (by decide) (fun c2 => ?_) (fun c2 => ?_)
    · rw [if_pos c2] at hJ
      refine aw_iload_n (n := 58) d_Mod_builtIn_57 rfl rfl 3 rfl ?_
      exact aw_iret d_Mod_builtIn_58 rfl (ax_ret hJ)
    · rw [if_neg c2] at hJ
      refine aw_iload_n (n := 53) d_Mod_builtIn_52 rfl rfl 3 rfl ?_
      refine aw_ineg (n := 54) d_Mod_builtIn_53 rfl ?_
      refine aw_goto (t := 58) d_Mod_builtIn_54 (by decide) ?_
      exact aw_iret d_Mod_builtIn_58 rfl (ax_ret hJ)
  rcases ax_ifE hJ with ⟨c3, hJ⟩ | ⟨c3, hJ⟩
  · refine aw_tableIn (t := 59) (off := 52) d_Mod_builtIn_7 (by rw [c3]; decide) (by rw [c3]; decide) (by first | (rw [c3]; done) | (rw [c3]; decide)) (by decide) ?_
    refine aw_iload (n := 61) d_Mod_builtIn_59 rfl 0 rfl ?_
    refine aw_ldc (n := 63) (v := 65536) d_Mod_builtIn_61 rfl kc_Mod_97 ?_
    refine aw_imul (n := 64) d_Mod_builtIn_63 rfl ?_
    exact aw_iret d_Mod_builtIn_64 rfl (ax_ret hJ)
  rcases ax_ifE hJ with ⟨c4, hJ⟩ | ⟨c4, hJ⟩
  · refine aw_tableIn (t := 65) (off := 58) d_Mod_builtIn_7 (by rw [c4]; decide) (by rw [c4]; decide) (by first | (rw [c4]; done) | (rw [c4]; decide)) (by decide) ?_
    refine aw_iload (n := 67) d_Mod_builtIn_65 rfl 0 rfl ?_
    refine aw_if_lt (n := 70) (t := 92) d_Mod_builtIn_67 rfl (by decide) (fun c5 => ?_) (fun c5 => ?_)
    · rw [if_pos c5] at hJ
      refine aw_iconst (n := 93) (v := 0) d_Mod_builtIn_92 rfl (by decide) ?_
      exact aw_iret d_Mod_builtIn_93 rfl (ax_ret hJ)
    · rw [if_neg c5] at hJ
      refine aw_iload (n := 72) d_Mod_builtIn_70 rfl 0 rfl ?_
      refine aw_bipush (n := 74) (v := 6) d_Mod_builtIn_72 rfl (by decide) ?_
      refine aw_icmp_ge (n := 77) (t := 92) d_Mod_builtIn_74 rfl (by decide) (fun c6 => ?_) (fun c6 => ?_)
      · rw [if_pos c6] at hJ
        refine aw_iconst (n := 93) (v := 0) d_Mod_builtIn_92 rfl (by decide) ?_
        exact aw_iret d_Mod_builtIn_93 rfl (ax_ret hJ)
      · rw [if_neg c6] at hJ
        refine aw_aload_n (n := 78) d_Mod_builtIn_77 rfl rfl 1 rfl ?_
        refine gf_Mod_held (n := 81) d_Mod_builtIn_78 rfl kf_Mod_48 ?_
        refine aw_iload (n := 83) d_Mod_builtIn_81 rfl 0 rfl ?_
        obtain ⟨h1, hJ⟩ := ax_need hJ
        refine al_44 (n := 84) d_Mod_builtIn_83 rfl h1 ?_
        refine aw_if_le (n := 87) (t := 92) d_Mod_builtIn_84 rfl (by decide) (fun c7 => ?_) (fun c7 => ?_)
        · rw [if_pos c7] at hJ
          refine aw_iconst (n := 93) (v := 0) d_Mod_builtIn_92 rfl (by decide) ?_
          exact aw_iret d_Mod_builtIn_93 rfl (ax_ret hJ)
        · rw [if_neg c7] at hJ
          refine aw_ldc (n := 89) (v := 65536) d_Mod_builtIn_87 rfl kc_Mod_97 ?_
          refine aw_goto (t := 93) d_Mod_builtIn_89 (by decide) ?_
          exact aw_iret d_Mod_builtIn_93 rfl (ax_ret hJ)
  rcases ax_ifE hJ with ⟨c8, hJ⟩ | ⟨c8, hJ⟩
  · refine aw_tableIn (t := 94) (off := 87) d_Mod_builtIn_7 (by rw [c8]; decide) (by rw [c8]; decide) (by first | (rw [c8]; done) | (rw [c8]; decide)) (by decide) ?_
    refine aw_iload (n := 96) d_Mod_builtIn_94 rfl 0 rfl ?_
    refine aw_if_lt (n := 99) (t := 147) d_Mod_builtIn_96 rfl (by decide) (fun c9 => ?_) (fun c9 => ?_)
    · rw [if_pos c9] at hJ
      refine aw_iconst (n := 148) (v := 0) d_Mod_builtIn_147 rfl (by decide) ?_
      exact aw_iret d_Mod_builtIn_148 rfl (ax_ret hJ)
    · rw [if_neg c9] at hJ
      refine aw_iload (n := 101) d_Mod_builtIn_99 rfl 0 rfl ?_
      refine aw_bipush (n := 103) (v := 6) d_Mod_builtIn_101 rfl (by decide) ?_
      refine aw_icmp_ge (n := 106) (t := 147) d_Mod_builtIn_103 rfl (by decide) (fun c10 => ?_) (fun c10 => ?_)
      · rw [if_pos c10] at hJ
        refine aw_iconst (n := 148) (v := 0) d_Mod_builtIn_147 rfl (by decide) ?_
        exact aw_iret d_Mod_builtIn_148 rfl (ax_ret hJ)
      · rw [if_neg c10] at hJ
        refine aw_aload_n (n := 107) d_Mod_builtIn_106 rfl rfl 1 rfl ?_
        refine gf_Mod_held (n := 110) d_Mod_builtIn_107 rfl kf_Mod_48 ?_
        refine aw_iload (n := 112) d_Mod_builtIn_110 rfl 0 rfl ?_
        obtain ⟨h2, hJ⟩ := ax_need hJ
        refine al_44 (n := 113) d_Mod_builtIn_112 rfl h2 ?_
        refine aw_iconst (n := 114) (v := 1) d_Mod_builtIn_113 rfl (by decide) ?_
        refine aw_icmp_eq (n := 117) (t := 142) d_Mod_builtIn_114 rfl (by decide) (fun c11 => ?_) (fun c11 => ?_)
        · rw [if_pos c11] at hJ
          refine aw_ldc (n := 144) (v := 65536) d_Mod_builtIn_142 rfl kc_Mod_97 ?_
          refine aw_goto (t := 148) d_Mod_builtIn_144 (by decide) ?_
          exact aw_iret d_Mod_builtIn_148 rfl (ax_ret hJ)
        · rw [if_neg c11] at hJ
          refine aw_aload_n (n := 118) d_Mod_builtIn_117 rfl rfl 1 rfl ?_
          refine gf_Mod_held (n := 121) d_Mod_builtIn_118 rfl kf_Mod_48 ?_
          refine aw_iload (n := 123) d_Mod_builtIn_121 rfl 0 rfl ?_
          obtain ⟨h3, hJ⟩ := ax_need hJ
          refine al_44 (n := 124) d_Mod_builtIn_123 rfl h3 ?_
          refine aw_bipush (n := 126) (v := 9) d_Mod_builtIn_124 rfl (by decide) ?_
          refine aw_icmp_lt (n := 129) (t := 147) d_Mod_builtIn_126 rfl (by decide) (fun c12 => ?_) (fun c12 => ?_)
          · rw [if_pos c12] at hJ
            refine aw_iconst (n := 148) (v := 0) d_Mod_builtIn_147 rfl (by decide) ?_
            exact aw_iret d_Mod_builtIn_148 rfl (ax_ret hJ)
          · rw [if_neg c12] at hJ
            refine aw_aload_n (n := 130) d_Mod_builtIn_129 rfl rfl 1 rfl ?_
            refine gf_Mod_held (n := 133) d_Mod_builtIn_130 rfl kf_Mod_48 ?_
            refine aw_iload (n := 135) d_Mod_builtIn_133 rfl 0 rfl ?_
            obtain ⟨h4, hJ⟩ := ax_need hJ
            refine al_44 (n := 136) d_Mod_builtIn_135 rfl h4 ?_
            refine aw_iconst (n := 137) (v := 4) d_Mod_builtIn_136 rfl (by decide) ?_
            refine aw_irem (n := 138) d_Mod_builtIn_137 rfl (by decide) ?_
            refine aw_iconst (n := 139) (v := 1) d_Mod_builtIn_138 rfl (by decide) ?_
            refine aw_icmp_ne (n := 142) (t := 147) d_Mod_builtIn_139 rfl (by decide) (fun c13 => ?_) (fun c13 => ?_)
            · rw [if_neg c13] at hJ
              refine aw_iconst (n := 148) (v := 0) d_Mod_builtIn_147 rfl (by decide) ?_
              exact aw_iret d_Mod_builtIn_148 rfl (ax_ret hJ)
            · rw [if_pos c13] at hJ
              refine aw_ldc (n := 144) (v := 65536) d_Mod_builtIn_142 rfl kc_Mod_97 ?_
              refine aw_goto (t := 148) d_Mod_builtIn_144 (by decide) ?_
              exact aw_iret d_Mod_builtIn_148 rfl (ax_ret hJ)
  rcases ax_ifE hJ with ⟨c14, hJ⟩ | ⟨c14, hJ⟩
  · refine aw_tableIn (t := 149) (off := 142) d_Mod_builtIn_7 (by rw [c14]; decide) (by rw [c14]; decide) (by first | (rw [c14]; done) | (rw [c14]; decide)) (by decide) ?_
    refine aw_iload_n (n := 150) d_Mod_builtIn_149 rfl rfl 3 rfl ?_
    refine aw_iload_n (n := 151) d_Mod_builtIn_150 rfl rfl 4 rfl ?_
    refine aw_icmp_ge (n := 154) (t := 158) d_Mod_builtIn_151 rfl (by decide) (fun c15 => ?_) (fun c15 => ?_)
    · rw [if_pos c15] at hJ
      refine aw_iload_n (n := 159) d_Mod_builtIn_158 rfl rfl 4 rfl ?_
      exact aw_iret d_Mod_builtIn_159 rfl (ax_ret hJ)
    · rw [if_neg c15] at hJ
      refine aw_iload_n (n := 155) d_Mod_builtIn_154 rfl rfl 3 rfl ?_
      refine aw_goto (t := 159) d_Mod_builtIn_155 (by decide) ?_
      exact aw_iret d_Mod_builtIn_159 rfl (ax_ret hJ)
  rcases ax_ifE hJ with ⟨c16, hJ⟩ | ⟨c16, hJ⟩
  · refine aw_tableIn (t := 160) (off := 153) d_Mod_builtIn_7 (by rw [c16]; decide) (by rw [c16]; decide) (by first | (rw [c16]; done) | (rw [c16]; decide)) (by decide) ?_
    refine aw_iload_n (n := 161) d_Mod_builtIn_160 rfl rfl 3 rfl ?_
    refine aw_iload_n (n := 162) d_Mod_builtIn_161 rfl rfl 4 rfl ?_
    refine aw_icmp_le (n := 165) (t := 169) d_Mod_builtIn_162 rfl (by decide) (fun c17 => ?_) (fun c17 => ?_)
    · rw [if_pos c17] at hJ
      refine aw_iload_n (n := 170) d_Mod_builtIn_169 rfl rfl 4 rfl ?_
      exact aw_iret d_Mod_builtIn_170 rfl (ax_ret hJ)
    · rw [if_neg c17] at hJ
      refine aw_iload_n (n := 166) d_Mod_builtIn_165 rfl rfl 3 rfl ?_
      refine aw_goto (t := 170) d_Mod_builtIn_166 (by decide) ?_
      exact aw_iret d_Mod_builtIn_170 rfl (ax_ret hJ)
  rcases ax_ifE hJ with ⟨c18, hJ⟩ | ⟨c18, hJ⟩
  · refine aw_tableIn (t := 171) (off := 164) d_Mod_builtIn_7 (by rw [c18]; decide) (by rw [c18]; decide) (by first | (rw [c18]; done) | (rw [c18]; decide)) (by decide) ?_
    refine aw_iload (n := 173) d_Mod_builtIn_171 rfl 0 rfl ?_
    refine aw_iload_n (n := 174) d_Mod_builtIn_173 rfl rfl 4 rfl ?_
    refine aw_bipush (n := 176) (v := 16) d_Mod_builtIn_174 rfl (by decide) ?_
    refine aw_ishr (n := 177) d_Mod_builtIn_176 rfl ?_
    obtain ⟨r1, σ1, hc1, hJ⟩ := ax_bindE hJ
    refine aw_callSi (n := 180) (c_Mod_seen hc1) Y_Mod_seen km_Mod_175 (by decide) (by decide) rfl rfl (Nat.le_of_ble_eq_true rfl) d_Mod_builtIn_177 rfl (fun r9 s9 hp => ?_)
    obtain ⟨rfl, rfl, hb1⟩ := hp
    refine aw_if_eq (n := 183) (t := 204) d_Mod_builtIn_180 rfl (by decide) (fun c19 => ?_) (fun c19 => ?_)
    · rw [if_pos c19] at hJ
      refine aw_iconst (n := 205) (v := 0) d_Mod_builtIn_204 rfl (by decide) ?_
      exact aw_iret d_Mod_builtIn_205 rfl (ax_ret hJ)
    · rw [if_neg c19] at hJ
      refine aw_ldc (n := 185) (v := 65536) d_Mod_builtIn_183 rfl kc_Mod_97 ?_
      refine aw_aload_n (n := 186) d_Mod_builtIn_185 rfl rfl 1 rfl ?_
      refine gf_Mod_dots (n := 189) d_Mod_builtIn_186 rfl kf_Mod_45 ?_
      refine aw_bipush (n := 191) (v := 16) d_Mod_builtIn_189 rfl (by decide) ?_
      refine aw_iload_n (n := 192) d_Mod_builtIn_191 rfl rfl 4 rfl ?_
      refine aw_bipush (n := 194) (v := 16) d_Mod_builtIn_192 rfl (by decide) ?_
      refine aw_ishr (n := 195) d_Mod_builtIn_194 rfl ?_
      refine aw_imul (n := 196) d_Mod_builtIn_195 rfl ?_
      refine aw_iload (n := 198) d_Mod_builtIn_196 rfl 0 rfl ?_
      refine aw_iadd (n := 199) d_Mod_builtIn_198 rfl ?_
      obtain ⟨h5, hJ⟩ := ax_need hJ
      refine al_43 (n := 200) d_Mod_builtIn_199 rfl h5 ?_
      refine aw_imul (n := 201) d_Mod_builtIn_200 rfl ?_
      refine aw_goto (t := 205) d_Mod_builtIn_201 (by decide) ?_
      exact aw_iret d_Mod_builtIn_205 rfl (ax_ret hJ)
  have q0 := lv_neT (a := 20) c1 (by decide)
  have q1 := lv_neT (a := 21) c3 (by decide)
  have q2 := lv_neT (a := 22) c4 (by decide)
  have q3 := lv_neT (a := 23) c8 (by decide)
  have q4 := lv_neT (a := 24) c14 (by decide)
  have q5 := lv_neT (a := 25) c16 (by decide)
  have q6 := lv_neT (a := 26) c18 (by decide)
  refine aw_tableOut (t := 206) d_Mod_builtIn_7 (by omega) (by decide) ?_
  refine aw_aload_n (n := 207) d_Mod_builtIn_206 rfl rfl 1 rfl ?_
  refine aw_aload_n (n := 208) d_Mod_builtIn_207 rfl rfl 1 rfl ?_
  refine gf_Mod_seed (n := 211) d_Mod_builtIn_208 rfl kf_Mod_51 ?_
  refine aw_ldc (n := 213) (v := 1103515245) d_Mod_builtIn_211 rfl kc_Mod_179 ?_
  refine aw_imul (n := 214) d_Mod_builtIn_213 rfl ?_
  refine aw_sipush (n := 217) (v := 12345) d_Mod_builtIn_214 rfl (by decide) ?_
  refine aw_iadd (n := 218) d_Mod_builtIn_217 rfl ?_
  refine pf_Mod_seed (n := 221) d_Mod_builtIn_218 rfl kf_Mod_51 ?_
  obtain ⟨σ2, eσ2, hJ⟩ := ax_letE hJ
  refine aw_let eσ2 ?_
  refine aw_aload_n (n := 222) d_Mod_builtIn_221 rfl rfl 1 rfl ?_
  refine gf_Mod_seed (n := 225) d_Mod_builtIn_222 rfl kf_Mod_51 ?_
  refine aw_bipush (n := 227) (v := 16) d_Mod_builtIn_225 rfl (by decide) ?_
  refine aw_iushr (n := 228) d_Mod_builtIn_227 rfl rfl ?_
  refine aw_i2l (n := 229) d_Mod_builtIn_228 rfl rfl ?_
  refine aw_iload_n (n := 230) d_Mod_builtIn_229 rfl rfl 3 rfl ?_
  refine aw_i2l (n := 231) d_Mod_builtIn_230 rfl rfl ?_
  refine aw_lmul (n := 232) d_Mod_builtIn_231 rfl ?_
  refine aw_bipush (n := 234) (v := 16) d_Mod_builtIn_232 rfl (by decide) ?_
  refine aw_lshr (n := 235) d_Mod_builtIn_234 rfl rfl ?_
  refine aw_l2i (n := 236) d_Mod_builtIn_235 rfl rfl ?_
  exact aw_iret d_Mod_builtIn_236 rfl (ax_ret hJ)
abbrev b_Mod_close : ByteArray := prog_10_method_23_code
def y_Mod_close : MethodName := ⟨"DotConsoleModel", "close", "(IZ)V"⟩
theorem d_Mod_close_0 : decode b_Mod_close 0 = .ok (.aload_n 0, 1) := by decide +kernel
theorem d_Mod_close_1 : decode b_Mod_close 1 = .ok (.dup, 1) := by decide +kernel
theorem d_Mod_close_2 : decode b_Mod_close 2 = .ok (.getfield 140, 3) := by decide +kernel
theorem d_Mod_close_5 : decode b_Mod_close 5 = .ok (.iconst 1, 1) := by decide +kernel
theorem d_Mod_close_6 : decode b_Mod_close 6 = .ok (.isub, 1) := by decide +kernel
theorem d_Mod_close_7 : decode b_Mod_close 7 = .ok (.putfield 140, 3) := by decide +kernel
theorem d_Mod_close_10 : decode b_Mod_close 10 = .ok (.aload_n 0, 1) := by decide +kernel
theorem d_Mod_close_11 : decode b_Mod_close 11 = .ok (.getfield 54, 3) := by decide +kernel
theorem d_Mod_close_14 : decode b_Mod_close 14 = .ok (.aload_n 0, 1) := by decide +kernel
theorem d_Mod_close_15 : decode b_Mod_close 15 = .ok (.getfield 140, 3) := by decide +kernel
theorem d_Mod_close_18 : decode b_Mod_close 18 = .ok (.iaload, 1) := by decide +kernel
theorem d_Mod_close_19 : decode b_Mod_close 19 = .ok (.istore_n 3, 1) := by decide +kernel
theorem d_Mod_close_20 : decode b_Mod_close 20 = .ok (.aload_n 0, 1) := by decide +kernel
theorem d_Mod_close_21 : decode b_Mod_close 21 = .ok (.getfield 57, 3) := by decide +kernel
theorem d_Mod_close_24 : decode b_Mod_close 24 = .ok (.aload_n 0, 1) := by decide +kernel
theorem d_Mod_close_25 : decode b_Mod_close 25 = .ok (.getfield 140, 3) := by decide +kernel
theorem d_Mod_close_28 : decode b_Mod_close 28 = .ok (.iaload, 1) := by decide +kernel
theorem d_Mod_close_29 : decode b_Mod_close 29 = .ok (.istore 4, 2) := by decide +kernel
theorem d_Mod_close_31 : decode b_Mod_close 31 = .ok (.iload_n 1, 1) := by decide +kernel
theorem d_Mod_close_32 : decode b_Mod_close 32 = .ok (.ifCond .ne 11, 3) := by decide +kernel
theorem d_Mod_close_35 : decode b_Mod_close 35 = .ok (.aload_n 0, 1) := by decide +kernel
theorem d_Mod_close_36 : decode b_Mod_close 36 = .ok (.iload_n 3, 1) := by decide +kernel
theorem d_Mod_close_37 : decode b_Mod_close 37 = .ok (.iload 4, 2) := by decide +kernel
theorem d_Mod_close_39 : decode b_Mod_close 39 = .ok (.invokevirtual 160, 3) := by decide +kernel
theorem d_Mod_close_42 : decode b_Mod_close 42 = .ok (.return_, 1) := by decide +kernel
theorem d_Mod_close_43 : decode b_Mod_close 43 = .ok (.iconst 0, 1) := by decide +kernel
theorem d_Mod_close_44 : decode b_Mod_close 44 = .ok (.istore 5, 2) := by decide +kernel
theorem d_Mod_close_46 : decode b_Mod_close 46 = .ok (.iload_n 1, 1) := by decide +kernel
theorem d_Mod_close_47 : decode b_Mod_close 47 = .ok (.bipush 24, 2) := by decide +kernel
theorem d_Mod_close_49 : decode b_Mod_close 49 = .ok (.if_icmp .eq 15, 3) := by decide +kernel
theorem d_Mod_close_52 : decode b_Mod_close 52 = .ok (.iload_n 1, 1) := by decide +kernel
theorem d_Mod_close_53 : decode b_Mod_close 53 = .ok (.bipush 25, 2) := by decide +kernel
theorem d_Mod_close_55 : decode b_Mod_close 55 = .ok (.if_icmp .eq 9, 3) := by decide +kernel
theorem d_Mod_close_58 : decode b_Mod_close 58 = .ok (.iload_n 1, 1) := by decide +kernel
theorem d_Mod_close_59 : decode b_Mod_close 59 = .ok (.bipush 26, 2) := by decide +kernel
theorem d_Mod_close_61 : decode b_Mod_close 61 = .ok (.if_icmp .ne 51, 3) := by decide +kernel
theorem d_Mod_close_64 : decode b_Mod_close 64 = .ok (.iload_n 3, 1) := by decide +kernel
theorem d_Mod_close_65 : decode b_Mod_close 65 = .ok (.istore 5, 2) := by decide +kernel
theorem d_Mod_close_67 : decode b_Mod_close 67 = .ok (.aload_n 0, 1) := by decide +kernel
theorem d_Mod_close_68 : decode b_Mod_close 68 = .ok (.dup, 1) := by decide +kernel
theorem d_Mod_close_69 : decode b_Mod_close 69 = .ok (.getfield 140, 3) := by decide +kernel
theorem d_Mod_close_72 : decode b_Mod_close 72 = .ok (.iconst 1, 1) := by decide +kernel
theorem d_Mod_close_73 : decode b_Mod_close 73 = .ok (.isub, 1) := by decide +kernel
theorem d_Mod_close_74 : decode b_Mod_close 74 = .ok (.putfield 140, 3) := by decide +kernel
theorem d_Mod_close_77 : decode b_Mod_close 77 = .ok (.aload_n 0, 1) := by decide +kernel
theorem d_Mod_close_78 : decode b_Mod_close 78 = .ok (.getfield 54, 3) := by decide +kernel
theorem d_Mod_close_81 : decode b_Mod_close 81 = .ok (.aload_n 0, 1) := by decide +kernel
theorem d_Mod_close_82 : decode b_Mod_close 82 = .ok (.getfield 140, 3) := by decide +kernel
theorem d_Mod_close_85 : decode b_Mod_close 85 = .ok (.iaload, 1) := by decide +kernel
theorem d_Mod_close_86 : decode b_Mod_close 86 = .ok (.istore_n 3, 1) := by decide +kernel
theorem d_Mod_close_87 : decode b_Mod_close 87 = .ok (.aload_n 0, 1) := by decide +kernel
theorem d_Mod_close_88 : decode b_Mod_close 88 = .ok (.getfield 57, 3) := by decide +kernel
theorem d_Mod_close_91 : decode b_Mod_close 91 = .ok (.aload_n 0, 1) := by decide +kernel
theorem d_Mod_close_92 : decode b_Mod_close 92 = .ok (.getfield 140, 3) := by decide +kernel
theorem d_Mod_close_95 : decode b_Mod_close 95 = .ok (.iaload, 1) := by decide +kernel
theorem d_Mod_close_96 : decode b_Mod_close 96 = .ok (.iload 4, 2) := by decide +kernel
theorem d_Mod_close_98 : decode b_Mod_close 98 = .ok (.if_icmp .le 14, 3) := by decide +kernel
theorem d_Mod_close_101 : decode b_Mod_close 101 = .ok (.aload_n 0, 1) := by decide +kernel
theorem d_Mod_close_102 : decode b_Mod_close 102 = .ok (.getfield 57, 3) := by decide +kernel
theorem d_Mod_close_105 : decode b_Mod_close 105 = .ok (.aload_n 0, 1) := by decide +kernel
theorem d_Mod_close_106 : decode b_Mod_close 106 = .ok (.getfield 140, 3) := by decide +kernel
theorem d_Mod_close_109 : decode b_Mod_close 109 = .ok (.iaload, 1) := by decide +kernel
theorem d_Mod_close_110 : decode b_Mod_close 110 = .ok (.istore 4, 2) := by decide +kernel
theorem d_Mod_close_112 : decode b_Mod_close 112 = .ok (.aload_n 0, 1) := by decide +kernel
theorem d_Mod_close_113 : decode b_Mod_close 113 = .ok (.iload_n 2, 1) := by decide +kernel
theorem d_Mod_close_114 : decode b_Mod_close 114 = .ok (.ifCond .eq 14, 3) := by decide +kernel
theorem d_Mod_close_117 : decode b_Mod_close 117 = .ok (.aload_n 0, 1) := by decide +kernel
theorem d_Mod_close_118 : decode b_Mod_close 118 = .ok (.iload_n 1, 1) := by decide +kernel
theorem d_Mod_close_119 : decode b_Mod_close 119 = .ok (.iload_n 3, 1) := by decide +kernel
theorem d_Mod_close_120 : decode b_Mod_close 120 = .ok (.iload 5, 2) := by decide +kernel
theorem d_Mod_close_122 : decode b_Mod_close 122 = .ok (.invokevirtual 172, 3) := by decide +kernel
theorem d_Mod_close_125 : decode b_Mod_close 125 = .ok (.goto 4, 3) := by decide +kernel
theorem d_Mod_close_128 : decode b_Mod_close 128 = .ok (.iconst 0, 1) := by decide +kernel
theorem d_Mod_close_129 : decode b_Mod_close 129 = .ok (.iload 4, 2) := by decide +kernel
theorem d_Mod_close_131 : decode b_Mod_close 131 = .ok (.iconst 1, 1) := by decide +kernel
theorem d_Mod_close_132 : decode b_Mod_close 132 = .ok (.iadd, 1) := by decide +kernel
theorem d_Mod_close_133 : decode b_Mod_close 133 = .ok (.invokevirtual 160, 3) := by decide +kernel
theorem d_Mod_close_136 : decode b_Mod_close 136 = .ok (.return_, 1) := by decide +kernel
def μ_Mod_close : ax_M := (b_Mod_close, 6, "DotConsoleModel", none, 4, 90, 0, 0)
theorem Y_Mod_close : ax_YV μ_Mod_close y_Mod_close 2 := ⟨⟨ax_mem (by decide +kernel) rfl, ax_mem (by decide +kernel) rfl, by decide, by decide, by decide +kernel⟩, ax_mem (by decide +kernel) rfl, ax_mem (by decide +kernel) rfl⟩
theorem km_Mod_160 : Cond.methodLink "DotConsoleModel" 160 ⟨"DotConsoleModel", "put", "(II)V"⟩ ∈ ax_T := ax_mem (by decide +kernel) rfl
theorem km_Mod_172 : Cond.methodLink "DotConsoleModel" 172 ⟨"DotConsoleModel", "builtIn", "(III)I"⟩ ∈ ax_T := ax_mem (by decide +kernel) rfl
def J_Mod_close_112 (N : Nat) (l1 : Int32) (l2 : Int32) (l3 : Int32) (l4 : Int32) (l5 : Int32) (σ : St) : Option St :=
  (if l2 = 0 then
  ax_bindV (J_Mod_put N 0 (l4 + 1) σ) (fun σ4 =>
  some σ4)
  else ax_bind (J_Mod_builtIn N l1 l3 l5 σ) (fun r1 σ5 =>
  ax_bindV (J_Mod_put N r1 (l4 + 1) σ5) (fun σ6 =>
  some σ6)))
def J_Mod_close_64 (N : Nat) (l1 : Int32) (l2 : Int32) (l3 : Int32) (l4 : Int32) (σ : St) : Option St :=
  ax_let (sF σ 8 ((σ.1 8) - 1)) (fun σ3 =>
  (if (inB (σ3.1 8) 60) = true then ax_let ((σ3.2 12 (σ3.1 8).toNatClampNeg) : Int32) (fun v3 =>
  (if (inB (σ3.1 8) 60) = true then (if (σ3.2 13 (σ3.1 8).toNatClampNeg) ≤ l4 then
  J_Mod_close_112 N l1 l2 v3 l4 l3 σ3
  else (if (inB (σ3.1 8) 60) = true then ax_let ((σ3.2 13 (σ3.1 8).toNatClampNeg) : Int32) (fun v4 =>
  J_Mod_close_112 N l1 l2 v3 v4 l3 σ3) else none)) else none)) else none))
def J_Mod_close (N : Nat) (a1 : Int32) (a2 : Int32) (σ : St) : Option St :=
  ax_let (sF σ 8 ((σ.1 8) - 1)) (fun σ1 =>
  (if (inB (σ1.1 8) 60) = true then ax_let ((σ1.2 12 (σ1.1 8).toNatClampNeg) : Int32) (fun v1 =>
  (if (inB (σ1.1 8) 60) = true then ax_let ((σ1.2 13 (σ1.1 8).toNatClampNeg) : Int32) (fun v2 =>
  (if a1 = 0 then
  ax_bindV (J_Mod_put N v1 v2 σ1) (fun σ2 =>
  some σ2)
  else (if a1 = 24 then
  J_Mod_close_64 N a1 a2 v1 v2 σ1
  else (if a1 = 25 then
  J_Mod_close_64 N a1 a2 v1 v2 σ1
  else (if a1 = 26 then
  J_Mod_close_64 N a1 a2 v1 v2 σ1
  else J_Mod_close_112 N a1 a2 v1 v2 0 σ1))))) else none)) else none))
set_option maxHeartbeats 1000000 in
theorem t_Mod_close_112 {N : Nat} {g : ax_G} {s9 : St} (x : ax_X) (A : Nat → Prop) : ∀ (l1 : Int32) (l2 : Int32) (l3 : Int32) (l4 : Int32) (l5 : Int32) (σ : St), J_Mod_close_112 N l1 l2 l3 l4 l5 σ = some s9 → AW x μ_Mod_close g A (wM g) (0, 0) (ax_QV x μ_Mod_close g A (wM g) (ax_eqV s9)) 112 [(0, .ref (g.2.1 32)), (1, .int l1), (2, .int l2), (3, .int l3), (4, .int l4), (5, .int l5)] [] σ := by
  intro l1 l2 l3 l4 l5 σ hJ
  rw [J_Mod_close_112] at hJ
  refine aw_aload_n (n := 113) d_Mod_close_112 rfl rfl 0 rfl ?_
  refine aw_iload_n (n := 114) d_Mod_close_113 rfl rfl 2 rfl ?_
  refine aw_if_eq (n := 117) (t := 128) d_Mod_close_114 rfl (by decide) (fun c6 => ?_) (fun c6 => ?_)
  · rw [if_pos c6] at hJ
    refine aw_iconst (n := 129) (v := 0) d_Mod_close_128 rfl (by decide) ?_
    refine aw_iload (n := 131) d_Mod_close_129 rfl 4 rfl ?_
    refine aw_iconst (n := 132) (v := 1) d_Mod_close_131 rfl (by decide) ?_
    refine aw_iadd (n := 133) d_Mod_close_132 rfl ?_
    obtain ⟨σ4, hc2, hJ⟩ := ax_bindVE hJ
    refine aw_callVv (n := 136) (c_Mod_put hc2) 0 rfl rfl Y_Mod_put km_Mod_160 (by decide) (by decide) rfl rfl (Nat.le_of_ble_eq_true rfl) d_Mod_close_133 rfl (fun s9 hp => ?_)
    subst hp
    exact aw_vret d_Mod_close_136 rfl (ax_retV hJ)
  · rw [if_neg c6] at hJ
    refine aw_aload_n (n := 118) d_Mod_close_117 rfl rfl 0 rfl ?_
    refine aw_iload_n (n := 119) d_Mod_close_118 rfl rfl 1 rfl ?_
    refine aw_iload_n (n := 120) d_Mod_close_119 rfl rfl 3 rfl ?_
    refine aw_iload (n := 122) d_Mod_close_120 rfl 5 rfl ?_
    obtain ⟨r1, σ5, hc3, hJ⟩ := ax_bindE hJ
    refine aw_callVi (n := 125) (c_Mod_builtIn hc3) 0 rfl rfl Y_Mod_builtIn km_Mod_172 (by decide) (by decide) rfl rfl (Nat.le_of_ble_eq_true rfl) d_Mod_close_122 rfl (fun r9 s9 hp => ?_)
    obtain ⟨rfl, rfl⟩ := hp
    refine aw_goto (t := 129) d_Mod_close_125 (by decide) ?_
    refine aw_iload (n := 131) d_Mod_close_129 rfl 4 rfl ?_
    refine aw_iconst (n := 132) (v := 1) d_Mod_close_131 rfl (by decide) ?_
    refine aw_iadd (n := 133) d_Mod_close_132 rfl ?_
    obtain ⟨σ6, hc4, hJ⟩ := ax_bindVE hJ
    refine aw_callVv (n := 136) (c_Mod_put hc4) 0 rfl rfl Y_Mod_put km_Mod_160 (by decide) (by decide) rfl rfl (Nat.le_of_ble_eq_true rfl) d_Mod_close_133 rfl (fun s9 hp => ?_)
    subst hp
    exact aw_vret d_Mod_close_136 rfl (ax_retV hJ)
set_option maxHeartbeats 1000000 in
theorem t_Mod_close_64 {N : Nat} {g : ax_G} {s9 : St} (x : ax_X) (A : Nat → Prop) : ∀ (l1 : Int32) (l2 : Int32) (l3 : Int32) (l4 : Int32) (σ : St), J_Mod_close_64 N l1 l2 l3 l4 σ = some s9 → AW x μ_Mod_close g A (wM g) (0, 0) (ax_QV x μ_Mod_close g A (wM g) (ax_eqV s9)) 64 [(0, .ref (g.2.1 32)), (1, .int l1), (2, .int l2), (3, .int l3), (4, .int l4)] [] σ := by
  intro l1 l2 l3 l4 σ hJ
  rw [J_Mod_close_64] at hJ
  refine aw_iload_n (n := 65) d_Mod_close_64 rfl rfl 3 rfl ?_
  refine aw_istore (n := 67) d_Mod_close_65 rfl (by decide) rfl ?_
  refine aw_aload_n (n := 68) d_Mod_close_67 rfl rfl 1 rfl ?_
  refine aw_dup (n := 69) d_Mod_close_68 rfl rfl ?_
  refine gf_Mod_top (n := 72) d_Mod_close_69 rfl kf_Mod_140 ?_
  refine aw_iconst (n := 73) (v := 1) d_Mod_close_72 rfl (by decide) ?_
  refine aw_isub (n := 74) d_Mod_close_73 rfl ?_
  refine pf_Mod_top (n := 77) d_Mod_close_74 rfl kf_Mod_140 ?_
  obtain ⟨σ3, eσ3, hJ⟩ := ax_letE hJ
  refine aw_let eσ3 ?_
  refine aw_aload_n (n := 78) d_Mod_close_77 rfl rfl 1 rfl ?_
  refine gf_Mod_numbers (n := 81) d_Mod_close_78 rfl kf_Mod_54 ?_
  refine aw_aload_n (n := 82) d_Mod_close_81 rfl rfl 1 rfl ?_
  refine gf_Mod_top (n := 85) d_Mod_close_82 rfl kf_Mod_140 ?_
  obtain ⟨h3, hJ⟩ := ax_need hJ
  refine al_45 (n := 86) d_Mod_close_85 rfl h3 ?_
  obtain ⟨v3, ev3, hJ⟩ := ax_letE hJ
  refine aw_top ev3 ?_
  refine aw_istore_n (n := 87) d_Mod_close_86 rfl rfl (by decide) rfl ?_
  refine aw_aload_n (n := 88) d_Mod_close_87 rfl rfl 2 rfl ?_
  refine gf_Mod_heights (n := 91) d_Mod_close_88 rfl kf_Mod_57 ?_
  refine aw_aload_n (n := 92) d_Mod_close_91 rfl rfl 2 rfl ?_
  refine gf_Mod_top (n := 95) d_Mod_close_92 rfl kf_Mod_140 ?_
  obtain ⟨h4, hJ⟩ := ax_need hJ
  refine al_46 (n := 96) d_Mod_close_95 rfl h4 ?_
  refine aw_iload (n := 98) d_Mod_close_96 rfl 5 rfl ?_
  refine aw_icmp_le (n := 101) (t := 112) d_Mod_close_98 rfl (by decide) (fun c5 => ?_) (fun c5 => ?_)
  · rw [if_pos c5] at hJ
    refine aw_sub [2, 3, 4, 0, 5, 1] rfl ?_
    exact t_Mod_close_112 x A _ _ _ _ _ _ hJ
  · rw [if_neg c5] at hJ
    refine aw_aload_n (n := 102) d_Mod_close_101 rfl rfl 2 rfl ?_
    refine gf_Mod_heights (n := 105) d_Mod_close_102 rfl kf_Mod_57 ?_
    refine aw_aload_n (n := 106) d_Mod_close_105 rfl rfl 2 rfl ?_
    refine gf_Mod_top (n := 109) d_Mod_close_106 rfl kf_Mod_140 ?_
    obtain ⟨h5, hJ⟩ := ax_need hJ
    refine al_46 (n := 110) d_Mod_close_109 rfl h5 ?_
    obtain ⟨v4, ev4, hJ⟩ := ax_letE hJ
    refine aw_top ev4 ?_
    refine aw_istore (n := 112) d_Mod_close_110 rfl (by decide) rfl ?_
    refine aw_sub [3, 4, 5, 1, 0, 2] rfl ?_
    exact t_Mod_close_112 x A _ _ _ _ _ _ hJ
set_option maxHeartbeats 1000000 in
theorem c_Mod_close {N : Nat} {g : ax_G} {a1 : Int32} {a2 : Int32} {σ : St} {s9 : St} (hJ : J_Mod_close N a1 a2 σ = some s9) : ax_CV μ_Mod_close g y_Mod_close (wM g) [.ref (g.2.1 32), .int a1, .int a2] σ (ax_eqV s9) := by
  refine ax_CV.of (plainFor_of_name rfl) rfl (Nat.le_of_ble_eq_true rfl) (fun x A _ => ?_)
  show AW x μ_Mod_close g A (wM g) (0, 0) (ax_QV x μ_Mod_close g A (wM g) (ax_eqV s9)) 0 [(0, .ref (g.2.1 32)), (1, .int a1), (2, .int a2)] [] σ
  rw [J_Mod_close] at hJ
  refine aw_aload_n (n := 1) d_Mod_close_0 rfl rfl 0 rfl ?_
  refine aw_dup (n := 2) d_Mod_close_1 rfl rfl ?_
  refine gf_Mod_top (n := 5) d_Mod_close_2 rfl kf_Mod_140 ?_
  refine aw_iconst (n := 6) (v := 1) d_Mod_close_5 rfl (by decide) ?_
  refine aw_isub (n := 7) d_Mod_close_6 rfl ?_
  refine pf_Mod_top (n := 10) d_Mod_close_7 rfl kf_Mod_140 ?_
  obtain ⟨σ1, eσ1, hJ⟩ := ax_letE hJ
  refine aw_let eσ1 ?_
  refine aw_aload_n (n := 11) d_Mod_close_10 rfl rfl 0 rfl ?_
  refine gf_Mod_numbers (n := 14) d_Mod_close_11 rfl kf_Mod_54 ?_
  refine aw_aload_n (n := 15) d_Mod_close_14 rfl rfl 0 rfl ?_
  refine gf_Mod_top (n := 18) d_Mod_close_15 rfl kf_Mod_140 ?_
  obtain ⟨h1, hJ⟩ := ax_need hJ
  refine al_45 (n := 19) d_Mod_close_18 rfl h1 ?_
  obtain ⟨v1, ev1, hJ⟩ := ax_letE hJ
  refine aw_top ev1 ?_
  refine aw_istore_n (n := 20) d_Mod_close_19 rfl rfl (by decide) rfl ?_
  refine aw_aload_n (n := 21) d_Mod_close_20 rfl rfl 1 rfl ?_
  refine gf_Mod_heights (n := 24) d_Mod_close_21 rfl kf_Mod_57 ?_
  refine aw_aload_n (n := 25) d_Mod_close_24 rfl rfl 1 rfl ?_
  refine gf_Mod_top (n := 28) d_Mod_close_25 rfl kf_Mod_140 ?_
  obtain ⟨h2, hJ⟩ := ax_need hJ
  refine al_46 (n := 29) d_Mod_close_28 rfl h2 ?_
  obtain ⟨v2, ev2, hJ⟩ := ax_letE hJ
  refine aw_top ev2 ?_
  refine aw_istore (n := 31) d_Mod_close_29 rfl (by decide) rfl ?_
  refine aw_iload_n (n := 32) d_Mod_close_31 rfl rfl 3 rfl ?_
  refine aw_if_ne (n := 35) (t := 43) d_Mod_close_32 rfl (by decide) (fun c1 => ?_) (fun c1 => ?_)
  · rw [if_neg c1] at hJ
    refine aw_iconst (n := 44) (v := 0) d_Mod_close_43 rfl (by decide) ?_
    refine aw_istore (n := 46) d_Mod_close_44 rfl (by decide) rfl ?_
    refine aw_iload_n (n := 47) d_Mod_close_46 rfl rfl 4 rfl ?_
    refine aw_bipush (n := 49) (v := 24) d_Mod_close_47 rfl (by decide) ?_
    refine aw_icmp_eq (n := 52) (t := 64) d_Mod_close_49 rfl (by decide) (fun c2 => ?_) (fun c2 => ?_)
    · rw [if_pos c2] at hJ
      refine aw_sub [3, 4, 5, 2, 1] rfl ?_
      exact t_Mod_close_64 x A _ _ _ _ _ hJ
    · rw [if_neg c2] at hJ
      refine aw_iload_n (n := 53) d_Mod_close_52 rfl rfl 4 rfl ?_
      refine aw_bipush (n := 55) (v := 25) d_Mod_close_53 rfl (by decide) ?_
      refine aw_icmp_eq (n := 58) (t := 64) d_Mod_close_55 rfl (by decide) (fun c3 => ?_) (fun c3 => ?_)
      · rw [if_pos c3] at hJ
        refine aw_sub [3, 4, 5, 2, 1] rfl ?_
        exact t_Mod_close_64 x A _ _ _ _ _ hJ
      · rw [if_neg c3] at hJ
        refine aw_iload_n (n := 59) d_Mod_close_58 rfl rfl 4 rfl ?_
        refine aw_bipush (n := 61) (v := 26) d_Mod_close_59 rfl (by decide) ?_
        refine aw_icmp_ne (n := 64) (t := 112) d_Mod_close_61 rfl (by decide) (fun c4 => ?_) (fun c4 => ?_)
        · rw [if_neg c4] at hJ
          refine aw_sub [3, 4, 5, 2, 1, 0] rfl ?_
          exact t_Mod_close_112 x A _ _ _ _ _ _ hJ
        · rw [if_pos c4] at hJ
          refine aw_sub [3, 4, 5, 2, 1] rfl ?_
          exact t_Mod_close_64 x A _ _ _ _ _ hJ
  · rw [if_pos c1] at hJ
    refine aw_aload_n (n := 36) d_Mod_close_35 rfl rfl 2 rfl ?_
    refine aw_iload_n (n := 37) d_Mod_close_36 rfl rfl 1 rfl ?_
    refine aw_iload (n := 39) d_Mod_close_37 rfl 0 rfl ?_
    obtain ⟨σ2, hc1, hJ⟩ := ax_bindVE hJ
    refine aw_callVv (n := 42) (c_Mod_put hc1) 0 rfl rfl Y_Mod_put km_Mod_160 (by decide) (by decide) rfl rfl (Nat.le_of_ble_eq_true rfl) d_Mod_close_39 rfl (fun s9 hp => ?_)
    subst hp
    exact aw_vret d_Mod_close_42 rfl (ax_retV hJ)
