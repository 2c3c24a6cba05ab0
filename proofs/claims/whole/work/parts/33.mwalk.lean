/-! WALKED: Mod_two, Mod_one, Mod_reduce, Mod_put, Mod_seen. Printed by wip/whole/build.py. -/
abbrev b_Mod_two : ByteArray := prog_10_method_19_code
def y_Mod_two : MethodName := ⟨"DotConsoleModel", "two", "(III)I"⟩
theorem d_Mod_two_0 : decode b_Mod_two 0 = .ok (.iload_n 0, 1) := by decide +kernel
theorem d_Mod_two_1 : decode b_Mod_two 1 = .ok (.lookupswitch 174 #[(38, 87), (42, 135), (43, 127), (45, 131), (47, 145), (60, 91), (61, 115), (62, 103), (124, 83)], 83) := by decide +kernel
theorem d_Mod_two_84 : decode b_Mod_two 84 = .ok (.iload_n 1, 1) := by decide +kernel
theorem d_Mod_two_85 : decode b_Mod_two 85 = .ok (.iload_n 2, 1) := by decide +kernel
theorem d_Mod_two_86 : decode b_Mod_two 86 = .ok (.ior, 1) := by decide +kernel
theorem d_Mod_two_87 : decode b_Mod_two 87 = .ok (.ireturn, 1) := by decide +kernel
theorem d_Mod_two_88 : decode b_Mod_two 88 = .ok (.iload_n 1, 1) := by decide +kernel
theorem d_Mod_two_89 : decode b_Mod_two 89 = .ok (.iload_n 2, 1) := by decide +kernel
theorem d_Mod_two_90 : decode b_Mod_two 90 = .ok (.iand, 1) := by decide +kernel
theorem d_Mod_two_91 : decode b_Mod_two 91 = .ok (.ireturn, 1) := by decide +kernel
theorem d_Mod_two_92 : decode b_Mod_two 92 = .ok (.iload_n 1, 1) := by decide +kernel
theorem d_Mod_two_93 : decode b_Mod_two 93 = .ok (.iload_n 2, 1) := by decide +kernel
theorem d_Mod_two_94 : decode b_Mod_two 94 = .ok (.if_icmp .ge 8, 3) := by decide +kernel
theorem d_Mod_two_97 : decode b_Mod_two 97 = .ok (.ldc 97, 2) := by decide +kernel
theorem d_Mod_two_99 : decode b_Mod_two 99 = .ok (.goto 4, 3) := by decide +kernel
theorem d_Mod_two_102 : decode b_Mod_two 102 = .ok (.iconst 0, 1) := by decide +kernel
theorem d_Mod_two_103 : decode b_Mod_two 103 = .ok (.ireturn, 1) := by decide +kernel
theorem d_Mod_two_104 : decode b_Mod_two 104 = .ok (.iload_n 1, 1) := by decide +kernel
theorem d_Mod_two_105 : decode b_Mod_two 105 = .ok (.iload_n 2, 1) := by decide +kernel
theorem d_Mod_two_106 : decode b_Mod_two 106 = .ok (.if_icmp .le 8, 3) := by decide +kernel
theorem d_Mod_two_109 : decode b_Mod_two 109 = .ok (.ldc 97, 2) := by decide +kernel
theorem d_Mod_two_111 : decode b_Mod_two 111 = .ok (.goto 4, 3) := by decide +kernel
theorem d_Mod_two_114 : decode b_Mod_two 114 = .ok (.iconst 0, 1) := by decide +kernel
theorem d_Mod_two_115 : decode b_Mod_two 115 = .ok (.ireturn, 1) := by decide +kernel
theorem d_Mod_two_116 : decode b_Mod_two 116 = .ok (.iload_n 1, 1) := by decide +kernel
theorem d_Mod_two_117 : decode b_Mod_two 117 = .ok (.iload_n 2, 1) := by decide +kernel
theorem d_Mod_two_118 : decode b_Mod_two 118 = .ok (.if_icmp .ne 8, 3) := by decide +kernel
theorem d_Mod_two_121 : decode b_Mod_two 121 = .ok (.ldc 97, 2) := by decide +kernel
theorem d_Mod_two_123 : decode b_Mod_two 123 = .ok (.goto 4, 3) := by decide +kernel
theorem d_Mod_two_126 : decode b_Mod_two 126 = .ok (.iconst 0, 1) := by decide +kernel
theorem d_Mod_two_127 : decode b_Mod_two 127 = .ok (.ireturn, 1) := by decide +kernel
theorem d_Mod_two_128 : decode b_Mod_two 128 = .ok (.iload_n 1, 1) := by decide +kernel
theorem d_Mod_two_129 : decode b_Mod_two 129 = .ok (.iload_n 2, 1) := by decide +kernel
theorem d_Mod_two_130 : decode b_Mod_two 130 = .ok (.iadd, 1) := by decide +kernel
theorem d_Mod_two_131 : decode b_Mod_two 131 = .ok (.ireturn, 1) := by decide +kernel
theorem d_Mod_two_132 : decode b_Mod_two 132 = .ok (.iload_n 1, 1) := by decide +kernel
theorem d_Mod_two_133 : decode b_Mod_two 133 = .ok (.iload_n 2, 1) := by decide +kernel
theorem d_Mod_two_134 : decode b_Mod_two 134 = .ok (.isub, 1) := by decide +kernel
theorem d_Mod_two_135 : decode b_Mod_two 135 = .ok (.ireturn, 1) := by decide +kernel
theorem d_Mod_two_136 : decode b_Mod_two 136 = .ok (.iload_n 1, 1) := by decide +kernel
theorem d_Mod_two_137 : decode b_Mod_two 137 = .ok (.i2l, 1) := by decide +kernel
theorem d_Mod_two_138 : decode b_Mod_two 138 = .ok (.iload_n 2, 1) := by decide +kernel
theorem d_Mod_two_139 : decode b_Mod_two 139 = .ok (.i2l, 1) := by decide +kernel
theorem d_Mod_two_140 : decode b_Mod_two 140 = .ok (.lmul, 1) := by decide +kernel
theorem d_Mod_two_141 : decode b_Mod_two 141 = .ok (.bipush 16, 2) := by decide +kernel
theorem d_Mod_two_143 : decode b_Mod_two 143 = .ok (.lshr, 1) := by decide +kernel
theorem d_Mod_two_144 : decode b_Mod_two 144 = .ok (.l2i, 1) := by decide +kernel
theorem d_Mod_two_145 : decode b_Mod_two 145 = .ok (.ireturn, 1) := by decide +kernel
theorem d_Mod_two_146 : decode b_Mod_two 146 = .ok (.iload_n 2, 1) := by decide +kernel
theorem d_Mod_two_147 : decode b_Mod_two 147 = .ok (.ifCond .ne 17, 3) := by decide +kernel
theorem d_Mod_two_150 : decode b_Mod_two 150 = .ok (.iload_n 1, 1) := by decide +kernel
theorem d_Mod_two_151 : decode b_Mod_two 151 = .ok (.ifCond .lt 8, 3) := by decide +kernel
theorem d_Mod_two_154 : decode b_Mod_two 154 = .ok (.ldc 155, 2) := by decide +kernel
theorem d_Mod_two_156 : decode b_Mod_two 156 = .ok (.goto 18, 3) := by decide +kernel
theorem d_Mod_two_159 : decode b_Mod_two 159 = .ok (.ldc 156, 2) := by decide +kernel
theorem d_Mod_two_161 : decode b_Mod_two 161 = .ok (.goto 13, 3) := by decide +kernel
theorem d_Mod_two_164 : decode b_Mod_two 164 = .ok (.iload_n 1, 1) := by decide +kernel
theorem d_Mod_two_165 : decode b_Mod_two 165 = .ok (.i2l, 1) := by decide +kernel
theorem d_Mod_two_166 : decode b_Mod_two 166 = .ok (.ldc2_w 98, 3) := by decide +kernel
theorem d_Mod_two_169 : decode b_Mod_two 169 = .ok (.lmul, 1) := by decide +kernel
theorem d_Mod_two_170 : decode b_Mod_two 170 = .ok (.iload_n 2, 1) := by decide +kernel
theorem d_Mod_two_171 : decode b_Mod_two 171 = .ok (.i2l, 1) := by decide +kernel
theorem d_Mod_two_172 : decode b_Mod_two 172 = .ok (.ldiv, 1) := by decide +kernel
theorem d_Mod_two_173 : decode b_Mod_two 173 = .ok (.l2i, 1) := by decide +kernel
theorem d_Mod_two_174 : decode b_Mod_two 174 = .ok (.ireturn, 1) := by decide +kernel
theorem d_Mod_two_175 : decode b_Mod_two 175 = .ok (.iload_n 2, 1) := by decide +kernel
theorem d_Mod_two_176 : decode b_Mod_two 176 = .ok (.ifCond .ne 7, 3) := by decide +kernel
theorem d_Mod_two_179 : decode b_Mod_two 179 = .ok (.iconst 0, 1) := by decide +kernel
theorem d_Mod_two_180 : decode b_Mod_two 180 = .ok (.goto 8, 3) := by decide +kernel
theorem d_Mod_two_183 : decode b_Mod_two 183 = .ok (.iload_n 1, 1) := by decide +kernel
theorem d_Mod_two_184 : decode b_Mod_two 184 = .ok (.iload_n 2, 1) := by decide +kernel
theorem d_Mod_two_185 : decode b_Mod_two 185 = .ok (.invokestatic 157, 3) := by decide +kernel
theorem d_Mod_two_188 : decode b_Mod_two 188 = .ok (.ireturn, 1) := by decide +kernel
def μ_Mod_two : ax_M := (b_Mod_two, 3, "DotConsoleModel", (some .int), 1, 23, 0, 0)
theorem Y_Mod_two : ax_YS μ_Mod_two y_Mod_two 3 := ⟨⟨ax_mem (by decide +kernel) rfl, ax_mem (by decide +kernel) rfl, by decide, by decide, by decide +kernel⟩, ax_mem (by decide +kernel) rfl⟩
theorem kc_Mod_156 : Cond.constant "DotConsoleModel" 156 (-2147483648) ∈ ax_T := ax_mem (by decide +kernel) rfl
theorem kc_Mod_155 : Cond.constant "DotConsoleModel" 155 (2147483647) ∈ ax_T := ax_mem (by decide +kernel) rfl
theorem km_Mod_157 : Cond.methodLink "DotConsoleModel" 157 ⟨"DotConsoleModel", "rest", "(II)I"⟩ ∈ ax_T := ax_mem (by decide +kernel) rfl
def J_Mod_two (N : Nat) (a0 : Int32) (a1 : Int32) (a2 : Int32) (σ : St) : Option (Int32 × St) :=
  (if a0 = 38 then some ((a1 &&& a2), σ)
  else (if a0 = 42 then some (((((a1.toInt64) * (a2.toInt64)) >>> ((16 : Int32).toInt64 &&& 63)).toInt32), σ)
  else (if a0 = 43 then some ((a1 + a2), σ)
  else (if a0 = 45 then some ((a1 - a2), σ)
  else (if a0 = 47 then (if a2 = 0 then
  (if a1 < 0 then
  some ((-2147483648), σ)
  else some (2147483647, σ))
  else (if (a2.toInt64) = 0 then none else some (((((a1.toInt64) * (65536)) / (a2.toInt64)).toInt32), σ)))
  else (if a0 = 60 then (if a2 ≤ a1 then
  some (0, σ)
  else some (65536, σ))
  else (if a0 = 61 then (if a1 = a2 then
  some (65536, σ)
  else some (0, σ))
  else (if a0 = 62 then (if a1 ≤ a2 then
  some (0, σ)
  else some (65536, σ))
  else (if a0 = 124 then some ((a1 ||| a2), σ)
  else (if a2 = 0 then
  some (0, σ)
  else ax_bind (J_Mod_rest N a1 a2 σ) (fun r1 σ1 =>
  some (r1, σ1))))))))))))
set_option maxHeartbeats 1000000 in
theorem c_Mod_two {N : Nat} {g : ax_G} {a0 : Int32} {a1 : Int32} {a2 : Int32} {σ : St} {r9 : Int32} {s9 : St} (hJ : J_Mod_two N a0 a1 a2 σ = some (r9, s9)) : ax_CI μ_Mod_two g y_Mod_two (wM g) [.int a0, .int a1, .int a2] σ (ax_eqI r9 s9) := by
  refine ax_CI.of (plainFor_of_name rfl) rfl (Nat.le_of_ble_eq_true rfl) (fun x A _ => ?_)
  show AW x μ_Mod_two g A (wM g) (0, 0) (ax_QI x μ_Mod_two g A (wM g) (ax_eqI r9 s9)) 0 [(0, .int a0), (1, .int a1), (2, .int a2)] [] σ
  rw [J_Mod_two] at hJ
  refine aw_iload_n (n := 1) d_Mod_two_0 rfl rfl 0 rfl ?_
  rcases ax_ifE hJ with ⟨c1, hJ⟩ | ⟨c1, hJ⟩
  · refine aw_lookup (t := 88) (off := 87) d_Mod_two_1 (by decide) (by first | (rw [c1]; done) | (rw [c1]; decide)) (by decide) ?_
    refine aw_iload_n (n := 89) d_Mod_two_88 rfl rfl 1 rfl ?_
    refine aw_iload_n (n := 90) d_Mod_two_89 rfl rfl 2 rfl ?_
    refine aw_iand (n := 91) d_Mod_two_90 rfl ?_
    exact aw_iret d_Mod_two_91 rfl (ax_ret hJ)
  rcases ax_ifE hJ with ⟨c2, hJ⟩ | ⟨c2, hJ⟩
  · refine aw_lookup (t := 136) (off := 135) d_Mod_two_1 (by decide) (by first | (rw [c2]; done) | (rw [c2]; decide)) (by decide) ?_
    refine aw_iload_n (n := 137) d_Mod_two_136 rfl rfl 1 rfl ?_
    refine aw_i2l (n := 138) d_Mod_two_137 rfl rfl ?_
    refine aw_iload_n (n := 139) d_Mod_two_138 rfl rfl 2 rfl ?_
    refine aw_i2l (n := 140) d_Mod_two_139 rfl rfl ?_
    refine aw_lmul (n := 141) d_Mod_two_140 rfl ?_
    refine aw_bipush (n := 143) (v := 16) d_Mod_two_141 rfl (by decide) ?_
    refine aw_lshr (n := 144) d_Mod_two_143 rfl rfl ?_
    refine aw_l2i (n := 145) d_Mod_two_144 rfl rfl ?_
    exact aw_iret d_Mod_two_145 rfl (ax_ret hJ)
  rcases ax_ifE hJ with ⟨c3, hJ⟩ | ⟨c3, hJ⟩
  · refine aw_lookup (t := 128) (off := 127) d_Mod_two_1 (by decide) (by first | (rw [c3]; done) | (rw [c3]; decide)) (by decide) ?_
    refine aw_iload_n (n := 129) d_Mod_two_128 rfl rfl 1 rfl ?_
    refine aw_iload_n (n := 130) d_Mod_two_129 rfl rfl 2 rfl ?_
    refine aw_iadd (n := 131) d_Mod_two_130 rfl ?_
    exact aw_iret d_Mod_two_131 rfl (ax_ret hJ)
  rcases ax_ifE hJ with ⟨c4, hJ⟩ | ⟨c4, hJ⟩
  · refine aw_lookup (t := 132) (off := 131) d_Mod_two_1 (by decide) (by first | (rw [c4]; done) | (rw [c4]; decide)) (by decide) ?_
    refine aw_iload_n (n := 133) d_Mod_two_132 rfl rfl 1 rfl ?_
    refine aw_iload_n (n := 134) d_Mod_two_133 rfl rfl 2 rfl ?_
    refine aw_isub (n := 135) d_Mod_two_134 rfl ?_
    exact aw_iret d_Mod_two_135 rfl (ax_ret hJ)
  rcases ax_ifE hJ with ⟨c5, hJ⟩ | ⟨c5, hJ⟩
  · refine aw_lookup (t := 146) (off := 145) d_Mod_two_1 (by decide) (by first | (rw [c5]; done) | (rw [c5]; decide)) (by decide) ?_
    refine aw_iload_n (n := 147) d_Mod_two_146 rfl rfl 2 rfl ?_
    refine aw_if_ne (n := 150) (t := 164) d_Mod_two_147 rfl (by decide) (fun c6 => ?_) (fun c6 => ?_)
    · rw [if_neg c6] at hJ
      refine aw_iload_n (n := 165) d_Mod_two_164 rfl rfl 1 rfl ?_
      refine aw_i2l (n := 166) d_Mod_two_165 rfl rfl ?_
      refine aw_ldc2 (n := 169) (v := 65536) d_Mod_two_166 rfl kc_Mod_98 ?_
      refine aw_lmul (n := 170) d_Mod_two_169 rfl ?_
      refine aw_iload_n (n := 171) d_Mod_two_170 rfl rfl 2 rfl ?_
      refine aw_i2l (n := 172) d_Mod_two_171 rfl rfl ?_
      obtain ⟨h1, hJ⟩ := ax_need0 hJ
      refine aw_ldiv (n := 173) d_Mod_two_172 rfl h1 ?_
      refine aw_l2i (n := 174) d_Mod_two_173 rfl rfl ?_
      exact aw_iret d_Mod_two_174 rfl (ax_ret hJ)
    · rw [if_pos c6] at hJ
      refine aw_iload_n (n := 151) d_Mod_two_150 rfl rfl 1 rfl ?_
      refine aw_if_lt (n := 154) (t := 159) d_Mod_two_151 rfl (by decide) (fun c7 => ?_) (fun c7 => ?_)
      · rw [if_pos c7] at hJ
        refine aw_ldc (n := 161) (v := -2147483648) d_Mod_two_159 rfl kc_Mod_156 ?_
        refine aw_goto (t := 174) d_Mod_two_161 (by decide) ?_
        exact aw_iret d_Mod_two_174 rfl (ax_ret hJ)
      · rw [if_neg c7] at hJ
        refine aw_ldc (n := 156) (v := 2147483647) d_Mod_two_154 rfl kc_Mod_155 ?_
        refine aw_goto (t := 174) d_Mod_two_156 (by decide) ?_
        exact aw_iret d_Mod_two_174 rfl (ax_ret hJ)
  rcases ax_ifE hJ with ⟨c8, hJ⟩ | ⟨c8, hJ⟩
  · refine aw_lookup (t := 92) (off := 91) d_Mod_two_1 (by decide) (by first | (rw [c8]; done) | (rw [c8]; decide)) (by decide) ?_
    refine aw_iload_n (n := 93) d_Mod_two_92 rfl rfl 1 rfl ?_
    refine aw_iload_n (n := 94) d_Mod_two_93 rfl rfl 2 rfl ?_
    refine aw_icmp_ge (n := 97) (t := 102) d_Mod_two_94 rfl (by decide) (fun c9 => ?_) (fun c9 => ?_)
    · rw [if_pos c9] at hJ
      refine aw_iconst (n := 103) (v := 0) d_Mod_two_102 rfl (by decide) ?_
      exact aw_iret d_Mod_two_103 rfl (ax_ret hJ)
    · rw [if_neg c9] at hJ
      refine aw_ldc (n := 99) (v := 65536) d_Mod_two_97 rfl kc_Mod_97 ?_
      refine aw_goto (t := 103) d_Mod_two_99 (by decide) ?_
      exact aw_iret d_Mod_two_103 rfl (ax_ret hJ)
  rcases ax_ifE hJ with ⟨c10, hJ⟩ | ⟨c10, hJ⟩
  · refine aw_lookup (t := 116) (off := 115) d_Mod_two_1 (by decide) (by first | (rw [c10]; done) | (rw [c10]; decide)) (by decide) ?_
    refine aw_iload_n (n := 117) d_Mod_two_116 rfl rfl 1 rfl ?_
    refine aw_iload_n (n := 118) d_Mod_two_117 rfl rfl 2 rfl ?_
    refine aw_icmp_ne (n := 121) (t := 126) d_Mod_two_118 rfl (by decide) (fun c11 => ?_) (fun c11 => ?_)
    · rw [if_neg c11] at hJ
      refine aw_iconst (n := 127) (v := 0) d_Mod_two_126 rfl (by decide) ?_
      exact aw_iret d_Mod_two_127 rfl (ax_ret hJ)
    · rw [if_pos c11] at hJ
      refine aw_ldc (n := 123) (v := 65536) d_Mod_two_121 rfl kc_Mod_97 ?_
      refine aw_goto (t := 127) d_Mod_two_123 (by decide) ?_
      exact aw_iret d_Mod_two_127 rfl (ax_ret hJ)
  rcases ax_ifE hJ with ⟨c12, hJ⟩ | ⟨c12, hJ⟩
  · refine aw_lookup (t := 104) (off := 103) d_Mod_two_1 (by decide) (by first | (rw [c12]; done) | (rw [c12]; decide)) (by decide) ?_
    refine aw_iload_n (n := 105) d_Mod_two_104 rfl rfl 1 rfl ?_
    refine aw_iload_n (n := 106) d_Mod_two_105 rfl rfl 2 rfl ?_
    refine aw_icmp_le (n := 109) (t := 114) d_Mod_two_106 rfl (by decide) (fun c13 => ?_) (fun c13 => ?_)
    · rw [if_pos c13] at hJ
      refine aw_iconst (n := 115) (v := 0) d_Mod_two_114 rfl (by decide) ?_
      exact aw_iret d_Mod_two_115 rfl (ax_ret hJ)
    · rw [if_neg c13] at hJ
      refine aw_ldc (n := 111) (v := 65536) d_Mod_two_109 rfl kc_Mod_97 ?_
      refine aw_goto (t := 115) d_Mod_two_111 (by decide) ?_
      exact aw_iret d_Mod_two_115 rfl (ax_ret hJ)
  rcases ax_ifE hJ with ⟨c14, hJ⟩ | ⟨c14, hJ⟩
  · refine aw_lookup (t := 84) (off := 83) d_Mod_two_1 (by decide) (by first | (rw [c14]; done) | (rw [c14]; decide)) (by decide) ?_
    refine aw_iload_n (n := 85) d_Mod_two_84 rfl rfl 1 rfl ?_
    refine aw_iload_n (n := 86) d_Mod_two_85 rfl rfl 2 rfl ?_
    refine aw_ior (n := 87) d_Mod_two_86 rfl ?_
    exact aw_iret d_Mod_two_87 rfl (ax_ret hJ)
  refine aw_lookup (t := 175) (off := 174) d_Mod_two_1 (by decide) (show Op.lookupswitch.offset [(38, 87), (42, 135), (43, 127), (45, 131), (47, 145), (60, 91), (61, 115), (62, 103), (124, 83)] 174 _ = 174 by rw [lv_osw (a := 38) c1 (by decide), lv_osw (a := 42) c2 (by decide), lv_osw (a := 43) c3 (by decide), lv_osw (a := 45) c4 (by decide), lv_osw (a := 47) c5 (by decide), lv_osw (a := 60) c8 (by decide), lv_osw (a := 61) c10 (by decide), lv_osw (a := 62) c12 (by decide), lv_osw (a := 124) c14 (by decide)]; rfl) (by decide) ?_
  refine aw_iload_n (n := 176) d_Mod_two_175 rfl rfl 2 rfl ?_
  refine aw_if_ne (n := 179) (t := 183) d_Mod_two_176 rfl (by decide) (fun c15 => ?_) (fun c15 => ?_)
  · rw [if_neg c15] at hJ
    refine aw_iload_n (n := 184) d_Mod_two_183 rfl rfl 1 rfl ?_
    refine aw_iload_n (n := 185) d_Mod_two_184 rfl rfl 2 rfl ?_
    obtain ⟨r1, σ1, hc1, hJ⟩ := ax_bindE hJ
    refine aw_callSi (n := 188) (c_Mod_rest hc1) Y_Mod_rest km_Mod_157 (by decide) (by decide) rfl rfl (Nat.le_of_ble_eq_true rfl) d_Mod_two_185 rfl (fun r9 s9 hp => ?_)
    obtain ⟨rfl, rfl⟩ := hp
    exact aw_iret d_Mod_two_188 rfl (ax_ret hJ)
  · rw [if_pos c15] at hJ
    refine aw_iconst (n := 180) (v := 0) d_Mod_two_179 rfl (by decide) ?_
    refine aw_goto (t := 188) d_Mod_two_180 (by decide) ?_
    exact aw_iret d_Mod_two_188 rfl (ax_ret hJ)
abbrev b_Mod_one : ByteArray := prog_10_method_18_code
def y_Mod_one : MethodName := ⟨"DotConsoleModel", "one", "()V"⟩
theorem d_Mod_one_0 : decode b_Mod_one 0 = .ok (.aload_n 0, 1) := by decide +kernel
theorem d_Mod_one_1 : decode b_Mod_one 1 = .ok (.dup, 1) := by decide +kernel
theorem d_Mod_one_2 : decode b_Mod_one 2 = .ok (.getfield 143, 3) := by decide +kernel
theorem d_Mod_one_5 : decode b_Mod_one 5 = .ok (.iconst 1, 1) := by decide +kernel
theorem d_Mod_one_6 : decode b_Mod_one 6 = .ok (.isub, 1) := by decide +kernel
theorem d_Mod_one_7 : decode b_Mod_one 7 = .ok (.putfield 143, 3) := by decide +kernel
theorem d_Mod_one_10 : decode b_Mod_one 10 = .ok (.aload_n 0, 1) := by decide +kernel
theorem d_Mod_one_11 : decode b_Mod_one 11 = .ok (.getfield 60, 3) := by decide +kernel
theorem d_Mod_one_14 : decode b_Mod_one 14 = .ok (.aload_n 0, 1) := by decide +kernel
theorem d_Mod_one_15 : decode b_Mod_one 15 = .ok (.getfield 143, 3) := by decide +kernel
theorem d_Mod_one_18 : decode b_Mod_one 18 = .ok (.iaload, 1) := by decide +kernel
theorem d_Mod_one_19 : decode b_Mod_one 19 = .ok (.istore_n 1, 1) := by decide +kernel
theorem d_Mod_one_20 : decode b_Mod_one 20 = .ok (.aload_n 0, 1) := by decide +kernel
theorem d_Mod_one_21 : decode b_Mod_one 21 = .ok (.getfield 54, 3) := by decide +kernel
theorem d_Mod_one_24 : decode b_Mod_one 24 = .ok (.aload_n 0, 1) := by decide +kernel
theorem d_Mod_one_25 : decode b_Mod_one 25 = .ok (.getfield 140, 3) := by decide +kernel
theorem d_Mod_one_28 : decode b_Mod_one 28 = .ok (.iconst 1, 1) := by decide +kernel
theorem d_Mod_one_29 : decode b_Mod_one 29 = .ok (.isub, 1) := by decide +kernel
theorem d_Mod_one_30 : decode b_Mod_one 30 = .ok (.iaload, 1) := by decide +kernel
theorem d_Mod_one_31 : decode b_Mod_one 31 = .ok (.istore_n 2, 1) := by decide +kernel
theorem d_Mod_one_32 : decode b_Mod_one 32 = .ok (.iload_n 1, 1) := by decide +kernel
theorem d_Mod_one_33 : decode b_Mod_one 33 = .ok (.sipush 1000, 3) := by decide +kernel
theorem d_Mod_one_36 : decode b_Mod_one 36 = .ok (.if_icmp .lt 105, 3) := by decide +kernel
theorem d_Mod_one_39 : decode b_Mod_one 39 = .ok (.iload_n 1, 1) := by decide +kernel
theorem d_Mod_one_40 : decode b_Mod_one 40 = .ok (.sipush 1045, 3) := by decide +kernel
theorem d_Mod_one_43 : decode b_Mod_one 43 = .ok (.if_icmp .ne 8, 3) := by decide +kernel
theorem d_Mod_one_46 : decode b_Mod_one 46 = .ok (.iload_n 2, 1) := by decide +kernel
theorem d_Mod_one_47 : decode b_Mod_one 47 = .ok (.ineg, 1) := by decide +kernel
theorem d_Mod_one_48 : decode b_Mod_one 48 = .ok (.goto 31, 3) := by decide +kernel
theorem d_Mod_one_51 : decode b_Mod_one 51 = .ok (.iload_n 1, 1) := by decide +kernel
theorem d_Mod_one_52 : decode b_Mod_one 52 = .ok (.sipush 1033, 3) := by decide +kernel
theorem d_Mod_one_55 : decode b_Mod_one 55 = .ok (.if_icmp .ne 16, 3) := by decide +kernel
theorem d_Mod_one_58 : decode b_Mod_one 58 = .ok (.iload_n 2, 1) := by decide +kernel
theorem d_Mod_one_59 : decode b_Mod_one 59 = .ok (.ifCond .ne 8, 3) := by decide +kernel
theorem d_Mod_one_62 : decode b_Mod_one 62 = .ok (.ldc 97, 2) := by decide +kernel
theorem d_Mod_one_64 : decode b_Mod_one 64 = .ok (.goto 15, 3) := by decide +kernel
theorem d_Mod_one_67 : decode b_Mod_one 67 = .ok (.iconst 0, 1) := by decide +kernel
theorem d_Mod_one_68 : decode b_Mod_one 68 = .ok (.goto 11, 3) := by decide +kernel
theorem d_Mod_one_71 : decode b_Mod_one 71 = .ok (.aload_n 0, 1) := by decide +kernel
theorem d_Mod_one_72 : decode b_Mod_one 72 = .ok (.iload_n 2, 1) := by decide +kernel
theorem d_Mod_one_73 : decode b_Mod_one 73 = .ok (.bipush 16, 2) := by decide +kernel
theorem d_Mod_one_75 : decode b_Mod_one 75 = .ok (.ishr, 1) := by decide +kernel
theorem d_Mod_one_76 : decode b_Mod_one 76 = .ok (.invokevirtual 149, 3) := by decide +kernel
theorem d_Mod_one_79 : decode b_Mod_one 79 = .ok (.istore_n 3, 1) := by decide +kernel
theorem d_Mod_one_80 : decode b_Mod_one 80 = .ok (.aload_n 0, 1) := by decide +kernel
theorem d_Mod_one_81 : decode b_Mod_one 81 = .ok (.getfield 54, 3) := by decide +kernel
theorem d_Mod_one_84 : decode b_Mod_one 84 = .ok (.aload_n 0, 1) := by decide +kernel
theorem d_Mod_one_85 : decode b_Mod_one 85 = .ok (.getfield 140, 3) := by decide +kernel
theorem d_Mod_one_88 : decode b_Mod_one 88 = .ok (.iconst 1, 1) := by decide +kernel
theorem d_Mod_one_89 : decode b_Mod_one 89 = .ok (.isub, 1) := by decide +kernel
theorem d_Mod_one_90 : decode b_Mod_one 90 = .ok (.iload_n 3, 1) := by decide +kernel
theorem d_Mod_one_91 : decode b_Mod_one 91 = .ok (.iastore, 1) := by decide +kernel
theorem d_Mod_one_92 : decode b_Mod_one 92 = .ok (.aload_n 0, 1) := by decide +kernel
theorem d_Mod_one_93 : decode b_Mod_one 93 = .ok (.getfield 57, 3) := by decide +kernel
theorem d_Mod_one_96 : decode b_Mod_one 96 = .ok (.aload_n 0, 1) := by decide +kernel
theorem d_Mod_one_97 : decode b_Mod_one 97 = .ok (.getfield 140, 3) := by decide +kernel
theorem d_Mod_one_100 : decode b_Mod_one 100 = .ok (.iconst 1, 1) := by decide +kernel
theorem d_Mod_one_101 : decode b_Mod_one 101 = .ok (.isub, 1) := by decide +kernel
theorem d_Mod_one_102 : decode b_Mod_one 102 = .ok (.dup2, 1) := by decide +kernel
theorem d_Mod_one_103 : decode b_Mod_one 103 = .ok (.iaload, 1) := by decide +kernel
theorem d_Mod_one_104 : decode b_Mod_one 104 = .ok (.iconst 1, 1) := by decide +kernel
theorem d_Mod_one_105 : decode b_Mod_one 105 = .ok (.iadd, 1) := by decide +kernel
theorem d_Mod_one_106 : decode b_Mod_one 106 = .ok (.iastore, 1) := by decide +kernel
theorem d_Mod_one_107 : decode b_Mod_one 107 = .ok (.aload_n 0, 1) := by decide +kernel
theorem d_Mod_one_108 : decode b_Mod_one 108 = .ok (.getfield 57, 3) := by decide +kernel
theorem d_Mod_one_111 : decode b_Mod_one 111 = .ok (.aload_n 0, 1) := by decide +kernel
theorem d_Mod_one_112 : decode b_Mod_one 112 = .ok (.getfield 140, 3) := by decide +kernel
theorem d_Mod_one_115 : decode b_Mod_one 115 = .ok (.iconst 1, 1) := by decide +kernel
theorem d_Mod_one_116 : decode b_Mod_one 116 = .ok (.isub, 1) := by decide +kernel
theorem d_Mod_one_117 : decode b_Mod_one 117 = .ok (.iaload, 1) := by decide +kernel
theorem d_Mod_one_118 : decode b_Mod_one 118 = .ok (.aload_n 0, 1) := by decide +kernel
theorem d_Mod_one_119 : decode b_Mod_one 119 = .ok (.getfield 127, 3) := by decide +kernel
theorem d_Mod_one_122 : decode b_Mod_one 122 = .ok (.if_icmp .le 18, 3) := by decide +kernel
theorem d_Mod_one_125 : decode b_Mod_one 125 = .ok (.aload_n 0, 1) := by decide +kernel
theorem d_Mod_one_126 : decode b_Mod_one 126 = .ok (.aload_n 0, 1) := by decide +kernel
theorem d_Mod_one_127 : decode b_Mod_one 127 = .ok (.getfield 57, 3) := by decide +kernel
theorem d_Mod_one_130 : decode b_Mod_one 130 = .ok (.aload_n 0, 1) := by decide +kernel
theorem d_Mod_one_131 : decode b_Mod_one 131 = .ok (.getfield 140, 3) := by decide +kernel
theorem d_Mod_one_134 : decode b_Mod_one 134 = .ok (.iconst 1, 1) := by decide +kernel
theorem d_Mod_one_135 : decode b_Mod_one 135 = .ok (.isub, 1) := by decide +kernel
theorem d_Mod_one_136 : decode b_Mod_one 136 = .ok (.iaload, 1) := by decide +kernel
theorem d_Mod_one_137 : decode b_Mod_one 137 = .ok (.putfield 127, 3) := by decide +kernel
theorem d_Mod_one_140 : decode b_Mod_one 140 = .ok (.return_, 1) := by decide +kernel
theorem d_Mod_one_141 : decode b_Mod_one 141 = .ok (.aload_n 0, 1) := by decide +kernel
theorem d_Mod_one_142 : decode b_Mod_one 142 = .ok (.dup, 1) := by decide +kernel
theorem d_Mod_one_143 : decode b_Mod_one 143 = .ok (.getfield 140, 3) := by decide +kernel
theorem d_Mod_one_146 : decode b_Mod_one 146 = .ok (.iconst 1, 1) := by decide +kernel
theorem d_Mod_one_147 : decode b_Mod_one 147 = .ok (.isub, 1) := by decide +kernel
theorem d_Mod_one_148 : decode b_Mod_one 148 = .ok (.putfield 140, 3) := by decide +kernel
theorem d_Mod_one_151 : decode b_Mod_one 151 = .ok (.aload_n 0, 1) := by decide +kernel
theorem d_Mod_one_152 : decode b_Mod_one 152 = .ok (.getfield 57, 3) := by decide +kernel
theorem d_Mod_one_155 : decode b_Mod_one 155 = .ok (.aload_n 0, 1) := by decide +kernel
theorem d_Mod_one_156 : decode b_Mod_one 156 = .ok (.getfield 140, 3) := by decide +kernel
theorem d_Mod_one_159 : decode b_Mod_one 159 = .ok (.iaload, 1) := by decide +kernel
theorem d_Mod_one_160 : decode b_Mod_one 160 = .ok (.aload_n 0, 1) := by decide +kernel
theorem d_Mod_one_161 : decode b_Mod_one 161 = .ok (.getfield 57, 3) := by decide +kernel
theorem d_Mod_one_164 : decode b_Mod_one 164 = .ok (.aload_n 0, 1) := by decide +kernel
theorem d_Mod_one_165 : decode b_Mod_one 165 = .ok (.getfield 140, 3) := by decide +kernel
theorem d_Mod_one_168 : decode b_Mod_one 168 = .ok (.iconst 1, 1) := by decide +kernel
theorem d_Mod_one_169 : decode b_Mod_one 169 = .ok (.isub, 1) := by decide +kernel
theorem d_Mod_one_170 : decode b_Mod_one 170 = .ok (.iaload, 1) := by decide +kernel
theorem d_Mod_one_171 : decode b_Mod_one 171 = .ok (.if_icmp .le 15, 3) := by decide +kernel
theorem d_Mod_one_174 : decode b_Mod_one 174 = .ok (.aload_n 0, 1) := by decide +kernel
theorem d_Mod_one_175 : decode b_Mod_one 175 = .ok (.getfield 57, 3) := by decide +kernel
theorem d_Mod_one_178 : decode b_Mod_one 178 = .ok (.aload_n 0, 1) := by decide +kernel
theorem d_Mod_one_179 : decode b_Mod_one 179 = .ok (.getfield 140, 3) := by decide +kernel
theorem d_Mod_one_182 : decode b_Mod_one 182 = .ok (.iaload, 1) := by decide +kernel
theorem d_Mod_one_183 : decode b_Mod_one 183 = .ok (.goto 14, 3) := by decide +kernel
theorem d_Mod_one_186 : decode b_Mod_one 186 = .ok (.aload_n 0, 1) := by decide +kernel
theorem d_Mod_one_187 : decode b_Mod_one 187 = .ok (.getfield 57, 3) := by decide +kernel
theorem d_Mod_one_190 : decode b_Mod_one 190 = .ok (.aload_n 0, 1) := by decide +kernel
theorem d_Mod_one_191 : decode b_Mod_one 191 = .ok (.getfield 140, 3) := by decide +kernel
theorem d_Mod_one_194 : decode b_Mod_one 194 = .ok (.iconst 1, 1) := by decide +kernel
theorem d_Mod_one_195 : decode b_Mod_one 195 = .ok (.isub, 1) := by decide +kernel
theorem d_Mod_one_196 : decode b_Mod_one 196 = .ok (.iaload, 1) := by decide +kernel
theorem d_Mod_one_197 : decode b_Mod_one 197 = .ok (.istore_n 3, 1) := by decide +kernel
theorem d_Mod_one_198 : decode b_Mod_one 198 = .ok (.aload_n 0, 1) := by decide +kernel
theorem d_Mod_one_199 : decode b_Mod_one 199 = .ok (.getfield 54, 3) := by decide +kernel
theorem d_Mod_one_202 : decode b_Mod_one 202 = .ok (.aload_n 0, 1) := by decide +kernel
theorem d_Mod_one_203 : decode b_Mod_one 203 = .ok (.getfield 140, 3) := by decide +kernel
theorem d_Mod_one_206 : decode b_Mod_one 206 = .ok (.iconst 1, 1) := by decide +kernel
theorem d_Mod_one_207 : decode b_Mod_one 207 = .ok (.isub, 1) := by decide +kernel
theorem d_Mod_one_208 : decode b_Mod_one 208 = .ok (.iload_n 1, 1) := by decide +kernel
theorem d_Mod_one_209 : decode b_Mod_one 209 = .ok (.aload_n 0, 1) := by decide +kernel
theorem d_Mod_one_210 : decode b_Mod_one 210 = .ok (.getfield 54, 3) := by decide +kernel
theorem d_Mod_one_213 : decode b_Mod_one 213 = .ok (.aload_n 0, 1) := by decide +kernel
theorem d_Mod_one_214 : decode b_Mod_one 214 = .ok (.getfield 140, 3) := by decide +kernel
theorem d_Mod_one_217 : decode b_Mod_one 217 = .ok (.iconst 1, 1) := by decide +kernel
theorem d_Mod_one_218 : decode b_Mod_one 218 = .ok (.isub, 1) := by decide +kernel
theorem d_Mod_one_219 : decode b_Mod_one 219 = .ok (.iaload, 1) := by decide +kernel
theorem d_Mod_one_220 : decode b_Mod_one 220 = .ok (.iload_n 2, 1) := by decide +kernel
theorem d_Mod_one_221 : decode b_Mod_one 221 = .ok (.invokestatic 152, 3) := by decide +kernel
theorem d_Mod_one_224 : decode b_Mod_one 224 = .ok (.iastore, 1) := by decide +kernel
theorem d_Mod_one_225 : decode b_Mod_one 225 = .ok (.aload_n 0, 1) := by decide +kernel
theorem d_Mod_one_226 : decode b_Mod_one 226 = .ok (.getfield 57, 3) := by decide +kernel
theorem d_Mod_one_229 : decode b_Mod_one 229 = .ok (.aload_n 0, 1) := by decide +kernel
theorem d_Mod_one_230 : decode b_Mod_one 230 = .ok (.getfield 140, 3) := by decide +kernel
theorem d_Mod_one_233 : decode b_Mod_one 233 = .ok (.iconst 1, 1) := by decide +kernel
theorem d_Mod_one_234 : decode b_Mod_one 234 = .ok (.isub, 1) := by decide +kernel
theorem d_Mod_one_235 : decode b_Mod_one 235 = .ok (.iload_n 3, 1) := by decide +kernel
theorem d_Mod_one_236 : decode b_Mod_one 236 = .ok (.iconst 1, 1) := by decide +kernel
theorem d_Mod_one_237 : decode b_Mod_one 237 = .ok (.iadd, 1) := by decide +kernel
theorem d_Mod_one_238 : decode b_Mod_one 238 = .ok (.iastore, 1) := by decide +kernel
theorem d_Mod_one_239 : decode b_Mod_one 239 = .ok (.iload_n 3, 1) := by decide +kernel
theorem d_Mod_one_240 : decode b_Mod_one 240 = .ok (.iconst 1, 1) := by decide +kernel
theorem d_Mod_one_241 : decode b_Mod_one 241 = .ok (.iadd, 1) := by decide +kernel
theorem d_Mod_one_242 : decode b_Mod_one 242 = .ok (.aload_n 0, 1) := by decide +kernel
theorem d_Mod_one_243 : decode b_Mod_one 243 = .ok (.getfield 127, 3) := by decide +kernel
theorem d_Mod_one_246 : decode b_Mod_one 246 = .ok (.if_icmp .le 10, 3) := by decide +kernel
theorem d_Mod_one_249 : decode b_Mod_one 249 = .ok (.aload_n 0, 1) := by decide +kernel
theorem d_Mod_one_250 : decode b_Mod_one 250 = .ok (.iload_n 3, 1) := by decide +kernel
theorem d_Mod_one_251 : decode b_Mod_one 251 = .ok (.iconst 1, 1) := by decide +kernel
theorem d_Mod_one_252 : decode b_Mod_one 252 = .ok (.iadd, 1) := by decide +kernel
theorem d_Mod_one_253 : decode b_Mod_one 253 = .ok (.putfield 127, 3) := by decide +kernel
theorem d_Mod_one_256 : decode b_Mod_one 256 = .ok (.return_, 1) := by decide +kernel
def μ_Mod_one : ax_M := (b_Mod_one, 4, "DotConsoleModel", none, 2, 45, 0, 0)
theorem Y_Mod_one : ax_YV μ_Mod_one y_Mod_one 0 := ⟨⟨ax_mem (by decide +kernel) rfl, ax_mem (by decide +kernel) rfl, by decide, by decide, by decide +kernel⟩, ax_mem (by decide +kernel) rfl, ax_mem (by decide +kernel) rfl⟩
theorem kf_Mod_54 : Cond.fieldLink "DotConsoleModel" 54 "DotConsoleModel" "numbers" "[I" ∈ ax_T := ax_mem (by decide +kernel) rfl
theorem kf_Mod_140 : Cond.fieldLink "DotConsoleModel" 140 "DotConsoleModel" "top" "I" ∈ ax_T := ax_mem (by decide +kernel) rfl
theorem kf_Mod_57 : Cond.fieldLink "DotConsoleModel" 57 "DotConsoleModel" "heights" "[I" ∈ ax_T := ax_mem (by decide +kernel) rfl
theorem kf_Mod_127 : Cond.fieldLink "DotConsoleModel" 127 "DotConsoleModel" "highest" "I" ∈ ax_T := ax_mem (by decide +kernel) rfl
theorem km_Mod_152 : Cond.methodLink "DotConsoleModel" 152 ⟨"DotConsoleModel", "two", "(III)I"⟩ ∈ ax_T := ax_mem (by decide +kernel) rfl
theorem kf_Mod_143 : Cond.fieldLink "DotConsoleModel" 143 "DotConsoleModel" "opTop" "I" ∈ ax_T := ax_mem (by decide +kernel) rfl
theorem km_Mod_149 : Cond.methodLink "DotConsoleModel" 149 ⟨"DotConsoleModel", "cell", "(I)I"⟩ ∈ ax_T := ax_mem (by decide +kernel) rfl
def J_Mod_one_79 (N : Nat) (t0 : Int32) (σ : St) : Option St :=
  (if (inB ((σ.1 8) - 1) 60) = true then ax_let (sA σ 12 ((σ.1 8) - 1).toNatClampNeg t0) (fun σ8 =>
  (if (inB ((σ8.1 8) - 1) 60) = true then (if (inB ((σ8.1 8) - 1) 60) = true then ax_let (sA σ8 13 ((σ8.1 8) - 1).toNatClampNeg ((σ8.2 13 ((σ8.1 8) - 1).toNatClampNeg) + 1)) (fun σ9 =>
  (if (inB ((σ9.1 8) - 1) 60) = true then (if (σ9.2 13 ((σ9.1 8) - 1).toNatClampNeg) ≤ (σ9.1 12) then
  some σ9
  else (if (inB ((σ9.1 8) - 1) 60) = true then ax_let (sF σ9 12 (σ9.2 13 ((σ9.1 8) - 1).toNatClampNeg)) (fun σ10 =>
  some σ10) else none)) else none)) else none) else none)) else none)
def J_Mod_one_197 (N : Nat) (t0 : Int32) (l1 : Int32) (l2 : Int32) (σ : St) : Option St :=
  (if (inB ((σ.1 8) - 1) 60) = true then ax_bind (J_Mod_two N l1 (σ.2 12 ((σ.1 8) - 1).toNatClampNeg) l2 σ) (fun r2 σ4 =>
  (if (inB ((σ.1 8) - 1) 60) = true then ax_let (sA σ4 12 ((σ.1 8) - 1).toNatClampNeg r2) (fun σ5 =>
  (if (inB ((σ5.1 8) - 1) 60) = true then ax_let (sA σ5 13 ((σ5.1 8) - 1).toNatClampNeg (t0 + 1)) (fun σ6 =>
  (if (t0 + 1) ≤ (σ6.1 12) then
  some σ6
  else ax_let (sF σ6 12 (t0 + 1)) (fun σ7 =>
  some σ7))) else none)) else none)) else none)
def J_Mod_one (N : Nat) (σ : St) : Option St :=
  ax_let (sF σ 9 ((σ.1 9) - 1)) (fun σ1 =>
  (if (inB (σ1.1 9) 110) = true then ax_let ((σ1.2 14 (σ1.1 9).toNatClampNeg) : Int32) (fun v1 =>
  (if (inB ((σ1.1 8) - 1) 60) = true then ax_let ((σ1.2 12 ((σ1.1 8) - 1).toNatClampNeg) : Int32) (fun v2 =>
  (if v1 < 1000 then
  ax_let (sF σ1 8 ((σ1.1 8) - 1)) (fun σ2 =>
  (if (inB (σ2.1 8) 60) = true then (if (inB ((σ2.1 8) - 1) 60) = true then (if (σ2.2 13 (σ2.1 8).toNatClampNeg) ≤ (σ2.2 13 ((σ2.1 8) - 1).toNatClampNeg) then
  (if (inB ((σ2.1 8) - 1) 60) = true then J_Mod_one_197 N (σ2.2 13 ((σ2.1 8) - 1).toNatClampNeg) v1 v2 σ2 else none)
  else (if (inB (σ2.1 8) 60) = true then J_Mod_one_197 N (σ2.2 13 (σ2.1 8).toNatClampNeg) v1 v2 σ2 else none)) else none) else none))
  else (if v1 = 1045 then
  J_Mod_one_79 N (-v2) σ1
  else (if v1 = 1033 then
  (if v2 = 0 then
  J_Mod_one_79 N 65536 σ1
  else J_Mod_one_79 N 0 σ1)
  else ax_bind (J_Mod_cell N (v2 >>> (16 &&& 31) : Int32) σ1) (fun r1 σ3 =>
  J_Mod_one_79 N r1 σ3))))) else none)) else none))
set_option maxHeartbeats 1000000 in
theorem t_Mod_one_79 {N : Nat} {g : ax_G} {s9 : St} (x : ax_X) (A : Nat → Prop) : ∀ (t0 : Int32) (σ : St), J_Mod_one_79 N t0 σ = some s9 → AW x μ_Mod_one g A (wM g) (0, 0) (ax_QV x μ_Mod_one g A (wM g) (ax_eqV s9)) 79 [(0, .ref (g.2.1 32))] [.int t0] σ := by
  intro t0 σ hJ
  rw [J_Mod_one_79] at hJ
  refine aw_istore_n (n := 80) d_Mod_one_79 rfl rfl (by decide) rfl ?_
  refine aw_aload_n (n := 81) d_Mod_one_80 rfl rfl 1 rfl ?_
  refine gf_Mod_numbers (n := 84) d_Mod_one_81 rfl kf_Mod_54 ?_
  refine aw_aload_n (n := 85) d_Mod_one_84 rfl rfl 1 rfl ?_
  refine gf_Mod_top (n := 88) d_Mod_one_85 rfl kf_Mod_140 ?_
  refine aw_iconst (n := 89) (v := 1) d_Mod_one_88 rfl (by decide) ?_
  refine aw_isub (n := 90) d_Mod_one_89 rfl ?_
  refine aw_iload_n (n := 91) d_Mod_one_90 rfl rfl 0 rfl ?_
  obtain ⟨h10, hJ⟩ := ax_need hJ
  refine as_45 (n := 92) d_Mod_one_91 rfl h10 ?_
  obtain ⟨σ8, eσ8, hJ⟩ := ax_letE hJ
  refine aw_let eσ8 ?_
  refine aw_aload_n (n := 93) d_Mod_one_92 rfl rfl 1 rfl ?_
  refine gf_Mod_heights (n := 96) d_Mod_one_93 rfl kf_Mod_57 ?_
  refine aw_aload_n (n := 97) d_Mod_one_96 rfl rfl 1 rfl ?_
  refine gf_Mod_top (n := 100) d_Mod_one_97 rfl kf_Mod_140 ?_
  refine aw_iconst (n := 101) (v := 1) d_Mod_one_100 rfl (by decide) ?_
  refine aw_isub (n := 102) d_Mod_one_101 rfl ?_
  refine aw_dup2 (n := 103) d_Mod_one_102 rfl rfl rfl ?_
  obtain ⟨h11, hJ⟩ := ax_need hJ
  refine al_46 (n := 104) d_Mod_one_103 rfl h11 ?_
  refine aw_iconst (n := 105) (v := 1) d_Mod_one_104 rfl (by decide) ?_
  refine aw_iadd (n := 106) d_Mod_one_105 rfl ?_
  obtain ⟨h12, hJ⟩ := ax_need hJ
  refine as_46 (n := 107) d_Mod_one_106 rfl h12 ?_
  obtain ⟨σ9, eσ9, hJ⟩ := ax_letE hJ
  refine aw_let eσ9 ?_
  refine aw_aload_n (n := 108) d_Mod_one_107 rfl rfl 1 rfl ?_
  refine gf_Mod_heights (n := 111) d_Mod_one_108 rfl kf_Mod_57 ?_
  refine aw_aload_n (n := 112) d_Mod_one_111 rfl rfl 1 rfl ?_
  refine gf_Mod_top (n := 115) d_Mod_one_112 rfl kf_Mod_140 ?_
  refine aw_iconst (n := 116) (v := 1) d_Mod_one_115 rfl (by decide) ?_
  refine aw_isub (n := 117) d_Mod_one_116 rfl ?_
  obtain ⟨h13, hJ⟩ := ax_need hJ
  refine al_46 (n := 118) d_Mod_one_117 rfl h13 ?_
  refine aw_aload_n (n := 119) d_Mod_one_118 rfl rfl 1 rfl ?_
  refine gf_Mod_highest (n := 122) d_Mod_one_119 rfl kf_Mod_127 ?_
  refine aw_icmp_le (n := 125) (t := 140) d_Mod_one_122 rfl (by decide) (fun c7 => ?_) (fun c7 => ?_)
  · rw [if_pos c7] at hJ
    exact aw_vret d_Mod_one_140 rfl (ax_retV hJ)
  · rw [if_neg c7] at hJ
    refine aw_aload_n (n := 126) d_Mod_one_125 rfl rfl 1 rfl ?_
    refine aw_aload_n (n := 127) d_Mod_one_126 rfl rfl 1 rfl ?_
    refine gf_Mod_heights (n := 130) d_Mod_one_127 rfl kf_Mod_57 ?_
    refine aw_aload_n (n := 131) d_Mod_one_130 rfl rfl 1 rfl ?_
    refine gf_Mod_top (n := 134) d_Mod_one_131 rfl kf_Mod_140 ?_
    refine aw_iconst (n := 135) (v := 1) d_Mod_one_134 rfl (by decide) ?_
    refine aw_isub (n := 136) d_Mod_one_135 rfl ?_
    obtain ⟨h14, hJ⟩ := ax_need hJ
    refine al_46 (n := 137) d_Mod_one_136 rfl h14 ?_
    refine pf_Mod_highest (n := 140) d_Mod_one_137 rfl kf_Mod_127 ?_
    obtain ⟨σ10, eσ10, hJ⟩ := ax_letE hJ
    refine aw_let eσ10 ?_
    exact aw_vret d_Mod_one_140 rfl (ax_retV hJ)
set_option maxHeartbeats 1000000 in
theorem t_Mod_one_197 {N : Nat} {g : ax_G} {s9 : St} (x : ax_X) (A : Nat → Prop) : ∀ (t0 : Int32) (l1 : Int32) (l2 : Int32) (σ : St), J_Mod_one_197 N t0 l1 l2 σ = some s9 → AW x μ_Mod_one g A (wM g) (0, 0) (ax_QV x μ_Mod_one g A (wM g) (ax_eqV s9)) 197 [(0, .ref (g.2.1 32)), (1, .int l1), (2, .int l2)] [.int t0] σ := by
  intro t0 l1 l2 σ hJ
  rw [J_Mod_one_197] at hJ
  refine aw_istore_n (n := 198) d_Mod_one_197 rfl rfl (by decide) rfl ?_
  refine aw_aload_n (n := 199) d_Mod_one_198 rfl rfl 1 rfl ?_
  refine gf_Mod_numbers (n := 202) d_Mod_one_199 rfl kf_Mod_54 ?_
  refine aw_aload_n (n := 203) d_Mod_one_202 rfl rfl 1 rfl ?_
  refine gf_Mod_top (n := 206) d_Mod_one_203 rfl kf_Mod_140 ?_
  refine aw_iconst (n := 207) (v := 1) d_Mod_one_206 rfl (by decide) ?_
  refine aw_isub (n := 208) d_Mod_one_207 rfl ?_
  refine aw_iload_n (n := 209) d_Mod_one_208 rfl rfl 2 rfl ?_
  refine aw_aload_n (n := 210) d_Mod_one_209 rfl rfl 1 rfl ?_
  refine gf_Mod_numbers (n := 213) d_Mod_one_210 rfl kf_Mod_54 ?_
  refine aw_aload_n (n := 214) d_Mod_one_213 rfl rfl 1 rfl ?_
  refine gf_Mod_top (n := 217) d_Mod_one_214 rfl kf_Mod_140 ?_
  refine aw_iconst (n := 218) (v := 1) d_Mod_one_217 rfl (by decide) ?_
  refine aw_isub (n := 219) d_Mod_one_218 rfl ?_
  obtain ⟨h7, hJ⟩ := ax_need hJ
  refine al_45 (n := 220) d_Mod_one_219 rfl h7 ?_
  refine aw_iload_n (n := 221) d_Mod_one_220 rfl rfl 3 rfl ?_
  obtain ⟨r2, σ4, hc2, hJ⟩ := ax_bindE hJ
  refine aw_callSi (n := 224) (c_Mod_two hc2) Y_Mod_two km_Mod_152 (by decide) (by decide) rfl rfl (Nat.le_of_ble_eq_true rfl) d_Mod_one_221 rfl (fun r9 s9 hp => ?_)
  obtain ⟨rfl, rfl⟩ := hp
  obtain ⟨h8, hJ⟩ := ax_need hJ
  refine as_45 (n := 225) d_Mod_one_224 rfl h8 ?_
  obtain ⟨σ5, eσ5, hJ⟩ := ax_letE hJ
  refine aw_let eσ5 ?_
  refine aw_aload_n (n := 226) d_Mod_one_225 rfl rfl 1 rfl ?_
  refine gf_Mod_heights (n := 229) d_Mod_one_226 rfl kf_Mod_57 ?_
  refine aw_aload_n (n := 230) d_Mod_one_229 rfl rfl 1 rfl ?_
  refine gf_Mod_top (n := 233) d_Mod_one_230 rfl kf_Mod_140 ?_
  refine aw_iconst (n := 234) (v := 1) d_Mod_one_233 rfl (by decide) ?_
  refine aw_isub (n := 235) d_Mod_one_234 rfl ?_
  refine aw_iload_n (n := 236) d_Mod_one_235 rfl rfl 0 rfl ?_
  refine aw_iconst (n := 237) (v := 1) d_Mod_one_236 rfl (by decide) ?_
  refine aw_iadd (n := 238) d_Mod_one_237 rfl ?_
  obtain ⟨h9, hJ⟩ := ax_need hJ
  refine as_46 (n := 239) d_Mod_one_238 rfl h9 ?_
  obtain ⟨σ6, eσ6, hJ⟩ := ax_letE hJ
  refine aw_let eσ6 ?_
  refine aw_iload_n (n := 240) d_Mod_one_239 rfl rfl 0 rfl ?_
  refine aw_iconst (n := 241) (v := 1) d_Mod_one_240 rfl (by decide) ?_
  refine aw_iadd (n := 242) d_Mod_one_241 rfl ?_
  refine aw_aload_n (n := 243) d_Mod_one_242 rfl rfl 1 rfl ?_
  refine gf_Mod_highest (n := 246) d_Mod_one_243 rfl kf_Mod_127 ?_
  refine aw_icmp_le (n := 249) (t := 256) d_Mod_one_246 rfl (by decide) (fun c6 => ?_) (fun c6 => ?_)
  · rw [if_pos c6] at hJ
    exact aw_vret d_Mod_one_256 rfl (ax_retV hJ)
  · rw [if_neg c6] at hJ
    refine aw_aload_n (n := 250) d_Mod_one_249 rfl rfl 1 rfl ?_
    refine aw_iload_n (n := 251) d_Mod_one_250 rfl rfl 0 rfl ?_
    refine aw_iconst (n := 252) (v := 1) d_Mod_one_251 rfl (by decide) ?_
    refine aw_iadd (n := 253) d_Mod_one_252 rfl ?_
    refine pf_Mod_highest (n := 256) d_Mod_one_253 rfl kf_Mod_127 ?_
    obtain ⟨σ7, eσ7, hJ⟩ := ax_letE hJ
    refine aw_let eσ7 ?_
    exact aw_vret d_Mod_one_256 rfl (ax_retV hJ)
set_option maxHeartbeats 1000000 in
theorem c_Mod_one {N : Nat} {g : ax_G} {σ : St} {s9 : St} (hJ : J_Mod_one N σ = some s9) : ax_CV μ_Mod_one g y_Mod_one (wM g) [.ref (g.2.1 32)] σ (ax_eqV s9) := by
  refine ax_CV.of (plainFor_of_name rfl) rfl (Nat.le_of_ble_eq_true rfl) (fun x A _ => ?_)
  show AW x μ_Mod_one g A (wM g) (0, 0) (ax_QV x μ_Mod_one g A (wM g) (ax_eqV s9)) 0 [(0, .ref (g.2.1 32))] [] σ
  rw [J_Mod_one] at hJ
  refine aw_aload_n (n := 1) d_Mod_one_0 rfl rfl 0 rfl ?_
  refine aw_dup (n := 2) d_Mod_one_1 rfl rfl ?_
  refine gf_Mod_opTop (n := 5) d_Mod_one_2 rfl kf_Mod_143 ?_
  refine aw_iconst (n := 6) (v := 1) d_Mod_one_5 rfl (by decide) ?_
  refine aw_isub (n := 7) d_Mod_one_6 rfl ?_
  refine pf_Mod_opTop (n := 10) d_Mod_one_7 rfl kf_Mod_143 ?_
  obtain ⟨σ1, eσ1, hJ⟩ := ax_letE hJ
  refine aw_let eσ1 ?_
  refine aw_aload_n (n := 11) d_Mod_one_10 rfl rfl 0 rfl ?_
  refine gf_Mod_ops (n := 14) d_Mod_one_11 rfl kf_Mod_60 ?_
  refine aw_aload_n (n := 15) d_Mod_one_14 rfl rfl 0 rfl ?_
  refine gf_Mod_opTop (n := 18) d_Mod_one_15 rfl kf_Mod_143 ?_
  obtain ⟨h1, hJ⟩ := ax_need hJ
  refine al_47 (n := 19) d_Mod_one_18 rfl h1 ?_
  obtain ⟨v1, ev1, hJ⟩ := ax_letE hJ
  refine aw_top ev1 ?_
  refine aw_istore_n (n := 20) d_Mod_one_19 rfl rfl (by decide) rfl ?_
  refine aw_aload_n (n := 21) d_Mod_one_20 rfl rfl 1 rfl ?_
  refine gf_Mod_numbers (n := 24) d_Mod_one_21 rfl kf_Mod_54 ?_
  refine aw_aload_n (n := 25) d_Mod_one_24 rfl rfl 1 rfl ?_
  refine gf_Mod_top (n := 28) d_Mod_one_25 rfl kf_Mod_140 ?_
  refine aw_iconst (n := 29) (v := 1) d_Mod_one_28 rfl (by decide) ?_
  refine aw_isub (n := 30) d_Mod_one_29 rfl ?_
  obtain ⟨h2, hJ⟩ := ax_need hJ
  refine al_45 (n := 31) d_Mod_one_30 rfl h2 ?_
  obtain ⟨v2, ev2, hJ⟩ := ax_letE hJ
  refine aw_top ev2 ?_
  refine aw_istore_n (n := 32) d_Mod_one_31 rfl rfl (by decide) rfl ?_
  refine aw_iload_n (n := 33) d_Mod_one_32 rfl rfl 1 rfl ?_
  refine aw_sipush (n := 36) (v := 1000) d_Mod_one_33 rfl (by decide) ?_
  refine aw_icmp_lt (n := 39) (t := 141) d_Mod_one_36 rfl (by decide) (fun c1 => ?_) (fun c1 => ?_)
  · rw [if_pos c1] at hJ
    refine aw_aload_n (n := 142) d_Mod_one_141 rfl rfl 2 rfl ?_
    refine aw_dup (n := 143) d_Mod_one_142 rfl rfl ?_
    refine gf_Mod_top (n := 146) d_Mod_one_143 rfl kf_Mod_140 ?_
    refine aw_iconst (n := 147) (v := 1) d_Mod_one_146 rfl (by decide) ?_
    refine aw_isub (n := 148) d_Mod_one_147 rfl ?_
    refine pf_Mod_top (n := 151) d_Mod_one_148 rfl kf_Mod_140 ?_
    obtain ⟨σ2, eσ2, hJ⟩ := ax_letE hJ
    refine aw_let eσ2 ?_
    refine aw_aload_n (n := 152) d_Mod_one_151 rfl rfl 2 rfl ?_
    refine gf_Mod_heights (n := 155) d_Mod_one_152 rfl kf_Mod_57 ?_
    refine aw_aload_n (n := 156) d_Mod_one_155 rfl rfl 2 rfl ?_
    refine gf_Mod_top (n := 159) d_Mod_one_156 rfl kf_Mod_140 ?_
    obtain ⟨h3, hJ⟩ := ax_need hJ
    refine al_46 (n := 160) d_Mod_one_159 rfl h3 ?_
    refine aw_aload_n (n := 161) d_Mod_one_160 rfl rfl 2 rfl ?_
    refine gf_Mod_heights (n := 164) d_Mod_one_161 rfl kf_Mod_57 ?_
    refine aw_aload_n (n := 165) d_Mod_one_164 rfl rfl 2 rfl ?_
    refine gf_Mod_top (n := 168) d_Mod_one_165 rfl kf_Mod_140 ?_
    refine aw_iconst (n := 169) (v := 1) d_Mod_one_168 rfl (by decide) ?_
    refine aw_isub (n := 170) d_Mod_one_169 rfl ?_
    obtain ⟨h4, hJ⟩ := ax_need hJ
    refine al_46 (n := 171) d_Mod_one_170 rfl h4 ?_
    refine aw_icmp_le (n := 174) (t := 186) d_Mod_one_171 rfl (by decide) (fun c2 => ?_) (fun c2 => ?_)
    · rw [if_pos c2] at hJ
      refine aw_aload_n (n := 187) d_Mod_one_186 rfl rfl 2 rfl ?_
      refine gf_Mod_heights (n := 190) d_Mod_one_187 rfl kf_Mod_57 ?_
      refine aw_aload_n (n := 191) d_Mod_one_190 rfl rfl 2 rfl ?_
      refine gf_Mod_top (n := 194) d_Mod_one_191 rfl kf_Mod_140 ?_
      refine aw_iconst (n := 195) (v := 1) d_Mod_one_194 rfl (by decide) ?_
      refine aw_isub (n := 196) d_Mod_one_195 rfl ?_
      obtain ⟨h5, hJ⟩ := ax_need hJ
      refine al_46 (n := 197) d_Mod_one_196 rfl h5 ?_
      refine aw_sub [2, 1, 0] rfl ?_
      exact t_Mod_one_197 x A _ _ _ _ hJ
    · rw [if_neg c2] at hJ
      refine aw_aload_n (n := 175) d_Mod_one_174 rfl rfl 2 rfl ?_
      refine gf_Mod_heights (n := 178) d_Mod_one_175 rfl kf_Mod_57 ?_
      refine aw_aload_n (n := 179) d_Mod_one_178 rfl rfl 2 rfl ?_
      refine gf_Mod_top (n := 182) d_Mod_one_179 rfl kf_Mod_140 ?_
      obtain ⟨h6, hJ⟩ := ax_need hJ
      refine al_46 (n := 183) d_Mod_one_182 rfl h6 ?_
      refine aw_goto (t := 197) d_Mod_one_183 (by decide) ?_
      refine aw_sub [2, 1, 0] rfl ?_
      exact t_Mod_one_197 x A _ _ _ _ hJ
  · rw [if_neg c1] at hJ
    refine aw_iload_n (n := 40) d_Mod_one_39 rfl rfl 1 rfl ?_
    refine aw_sipush (n := 43) (v := 1045) d_Mod_one_40 rfl (by decide) ?_
    refine aw_icmp_ne (n := 46) (t := 51) d_Mod_one_43 rfl (by decide) (fun c3 => ?_) (fun c3 => ?_)
    · rw [if_neg c3] at hJ
      refine aw_iload_n (n := 52) d_Mod_one_51 rfl rfl 1 rfl ?_
      refine aw_sipush (n := 55) (v := 1033) d_Mod_one_52 rfl (by decide) ?_
      refine aw_icmp_ne (n := 58) (t := 71) d_Mod_one_55 rfl (by decide) (fun c4 => ?_) (fun c4 => ?_)
      · rw [if_neg c4] at hJ
        refine aw_aload_n (n := 72) d_Mod_one_71 rfl rfl 2 rfl ?_
        refine aw_iload_n (n := 73) d_Mod_one_72 rfl rfl 0 rfl ?_
        refine aw_bipush (n := 75) (v := 16) d_Mod_one_73 rfl (by decide) ?_
        refine aw_ishr (n := 76) d_Mod_one_75 rfl ?_
        obtain ⟨r1, σ3, hc1, hJ⟩ := ax_bindE hJ
        refine aw_callVi (n := 79) (c_Mod_cell hc1) 0 rfl rfl Y_Mod_cell km_Mod_149 (by decide) (by decide) rfl rfl (Nat.le_of_ble_eq_true rfl) d_Mod_one_76 rfl (fun r9 s9 hp => ?_)
        obtain ⟨rfl, rfl⟩ := hp
        refine aw_sub [2] rfl ?_
        exact t_Mod_one_79 x A _ _ hJ
      · rw [if_pos c4] at hJ
        refine aw_iload_n (n := 59) d_Mod_one_58 rfl rfl 0 rfl ?_
        refine aw_if_ne (n := 62) (t := 67) d_Mod_one_59 rfl (by decide) (fun c5 => ?_) (fun c5 => ?_)
        · rw [if_neg c5] at hJ
          refine aw_iconst (n := 68) (v := 0) d_Mod_one_67 rfl (by decide) ?_
          refine aw_goto (t := 79) d_Mod_one_68 (by decide) ?_
          refine aw_sub [2] rfl ?_
          exact t_Mod_one_79 x A _ _ hJ
        · rw [if_pos c5] at hJ
          refine aw_ldc (n := 64) (v := 65536) d_Mod_one_62 rfl kc_Mod_97 ?_
          refine aw_goto (t := 79) d_Mod_one_64 (by decide) ?_
          refine aw_sub [2] rfl ?_
          exact t_Mod_one_79 x A _ _ hJ
    · rw [if_pos c3] at hJ
      refine aw_iload_n (n := 47) d_Mod_one_46 rfl rfl 0 rfl ?_
      refine aw_ineg (n := 48) d_Mod_one_47 rfl ?_
      refine aw_goto (t := 79) d_Mod_one_48 (by decide) ?_
      refine aw_sub [2] rfl ?_
      exact t_Mod_one_79 x A _ _ hJ
abbrev b_Mod_reduce : ByteArray := prog_10_method_21_code
def y_Mod_reduce : MethodName := ⟨"DotConsoleModel", "reduce", "(I)V"⟩
theorem d_Mod_reduce_0 : decode b_Mod_reduce 0 = .ok (.aload_n 0, 1) := by decide +kernel
theorem d_Mod_reduce_1 : decode b_Mod_reduce 1 = .ok (.getfield 143, 3) := by decide +kernel
theorem d_Mod_reduce_4 : decode b_Mod_reduce 4 = .ok (.ifCond .le 45, 3) := by decide +kernel
theorem d_Mod_reduce_7 : decode b_Mod_reduce 7 = .ok (.aload_n 0, 1) := by decide +kernel
theorem d_Mod_reduce_8 : decode b_Mod_reduce 8 = .ok (.getfield 60, 3) := by decide +kernel
theorem d_Mod_reduce_11 : decode b_Mod_reduce 11 = .ok (.aload_n 0, 1) := by decide +kernel
theorem d_Mod_reduce_12 : decode b_Mod_reduce 12 = .ok (.getfield 143, 3) := by decide +kernel
theorem d_Mod_reduce_15 : decode b_Mod_reduce 15 = .ok (.iconst 1, 1) := by decide +kernel
theorem d_Mod_reduce_16 : decode b_Mod_reduce 16 = .ok (.isub, 1) := by decide +kernel
theorem d_Mod_reduce_17 : decode b_Mod_reduce 17 = .ok (.iaload, 1) := by decide +kernel
theorem d_Mod_reduce_18 : decode b_Mod_reduce 18 = .ok (.sipush 500, 3) := by decide +kernel
theorem d_Mod_reduce_21 : decode b_Mod_reduce 21 = .ok (.if_icmp .ge 28, 3) := by decide +kernel
theorem d_Mod_reduce_24 : decode b_Mod_reduce 24 = .ok (.aload_n 0, 1) := by decide +kernel
theorem d_Mod_reduce_25 : decode b_Mod_reduce 25 = .ok (.getfield 60, 3) := by decide +kernel
theorem d_Mod_reduce_28 : decode b_Mod_reduce 28 = .ok (.aload_n 0, 1) := by decide +kernel
theorem d_Mod_reduce_29 : decode b_Mod_reduce 29 = .ok (.getfield 143, 3) := by decide +kernel
theorem d_Mod_reduce_32 : decode b_Mod_reduce 32 = .ok (.iconst 1, 1) := by decide +kernel
theorem d_Mod_reduce_33 : decode b_Mod_reduce 33 = .ok (.isub, 1) := by decide +kernel
theorem d_Mod_reduce_34 : decode b_Mod_reduce 34 = .ok (.iaload, 1) := by decide +kernel
theorem d_Mod_reduce_35 : decode b_Mod_reduce 35 = .ok (.invokestatic 110, 3) := by decide +kernel
theorem d_Mod_reduce_38 : decode b_Mod_reduce 38 = .ok (.iload_n 1, 1) := by decide +kernel
theorem d_Mod_reduce_39 : decode b_Mod_reduce 39 = .ok (.if_icmp .lt 10, 3) := by decide +kernel
theorem d_Mod_reduce_42 : decode b_Mod_reduce 42 = .ok (.aload_n 0, 1) := by decide +kernel
theorem d_Mod_reduce_43 : decode b_Mod_reduce 43 = .ok (.invokevirtual 146, 3) := by decide +kernel
theorem d_Mod_reduce_46 : decode b_Mod_reduce 46 = .ok (.goto (-46), 3) := by decide +kernel
theorem d_Mod_reduce_49 : decode b_Mod_reduce 49 = .ok (.return_, 1) := by decide +kernel
def μ_Mod_reduce : ax_M := (b_Mod_reduce, 2, "DotConsoleModel", none, 3, 68, 0, 0)
theorem Y_Mod_reduce : ax_YV μ_Mod_reduce y_Mod_reduce 1 := ⟨⟨ax_mem (by decide +kernel) rfl, ax_mem (by decide +kernel) rfl, by decide, by decide, by decide +kernel⟩, ax_mem (by decide +kernel) rfl, ax_mem (by decide +kernel) rfl⟩
theorem km_Mod_146 : Cond.methodLink "DotConsoleModel" 146 ⟨"DotConsoleModel", "one", "()V"⟩ ∈ ax_T := ax_mem (by decide +kernel) rfl
def J_Mod_reduce_0 (N : Nat) : Nat → Int32 → St → Option St
  | 0, _, _ => none
  | n + 1, l1, σ => (if (σ.1 9) ≤ 0 then
  some σ
  else (if (inB ((σ.1 9) - 1) 110) = true then (if 500 ≤ (σ.2 14 ((σ.1 9) - 1).toNatClampNeg) then
  some σ
  else (if (inB ((σ.1 9) - 1) 110) = true then ax_bind (J_Mod_level N (σ.2 14 ((σ.1 9) - 1).toNatClampNeg) σ) (fun r1 σ1 =>
  (if r1 < l1 then
  some σ1
  else ax_bindV (J_Mod_one N σ1) (fun σ2 =>
  J_Mod_reduce_0 N n l1 σ2))) else none)) else none))
def J_Mod_reduce (N : Nat) (a1 : Int32) (σ : St) : Option St :=
  J_Mod_reduce_0 N N a1 σ
set_option maxHeartbeats 1000000 in
theorem t_Mod_reduce_0 {N : Nat} {g : ax_G} {s9 : St} (x : ax_X) (A : Nat → Prop) : ∀ (n : Nat) (l1 : Int32) (σ : St), J_Mod_reduce_0 N n l1 σ = some s9 → AW x μ_Mod_reduce g A (wM g) (0, 0) (ax_QV x μ_Mod_reduce g A (wM g) (ax_eqV s9)) 0 [(0, .ref (g.2.1 32)), (1, .int l1)] [] σ := by
  intro n
  induction n with
  | zero => intro l1 σ hJ; rw [J_Mod_reduce_0] at hJ; cases hJ
  | succ n ih =>
    intro l1 σ hJ
    rw [J_Mod_reduce_0] at hJ
    refine aw_aload_n (n := 1) d_Mod_reduce_0 rfl rfl 0 rfl ?_
    refine gf_Mod_opTop (n := 4) d_Mod_reduce_1 rfl kf_Mod_143 ?_
    refine aw_if_le (n := 7) (t := 49) d_Mod_reduce_4 rfl (by decide) (fun c1 => ?_) (fun c1 => ?_)
    · rw [if_pos c1] at hJ
      exact aw_vret d_Mod_reduce_49 rfl (ax_retV hJ)
    · rw [if_neg c1] at hJ
      refine aw_aload_n (n := 8) d_Mod_reduce_7 rfl rfl 0 rfl ?_
      refine gf_Mod_ops (n := 11) d_Mod_reduce_8 rfl kf_Mod_60 ?_
      refine aw_aload_n (n := 12) d_Mod_reduce_11 rfl rfl 0 rfl ?_
      refine gf_Mod_opTop (n := 15) d_Mod_reduce_12 rfl kf_Mod_143 ?_
      refine aw_iconst (n := 16) (v := 1) d_Mod_reduce_15 rfl (by decide) ?_
      refine aw_isub (n := 17) d_Mod_reduce_16 rfl ?_
      obtain ⟨h1, hJ⟩ := ax_need hJ
      refine al_47 (n := 18) d_Mod_reduce_17 rfl h1 ?_
      refine aw_sipush (n := 21) (v := 500) d_Mod_reduce_18 rfl (by decide) ?_
      refine aw_icmp_ge (n := 24) (t := 49) d_Mod_reduce_21 rfl (by decide) (fun c2 => ?_) (fun c2 => ?_)
      · rw [if_pos c2] at hJ
        exact aw_vret d_Mod_reduce_49 rfl (ax_retV hJ)
      · rw [if_neg c2] at hJ
        refine aw_aload_n (n := 25) d_Mod_reduce_24 rfl rfl 0 rfl ?_
        refine gf_Mod_ops (n := 28) d_Mod_reduce_25 rfl kf_Mod_60 ?_
        refine aw_aload_n (n := 29) d_Mod_reduce_28 rfl rfl 0 rfl ?_
        refine gf_Mod_opTop (n := 32) d_Mod_reduce_29 rfl kf_Mod_143 ?_
        refine aw_iconst (n := 33) (v := 1) d_Mod_reduce_32 rfl (by decide) ?_
        refine aw_isub (n := 34) d_Mod_reduce_33 rfl ?_
        obtain ⟨h2, hJ⟩ := ax_need hJ
        refine al_47 (n := 35) d_Mod_reduce_34 rfl h2 ?_
        obtain ⟨r1, σ1, hc1, hJ⟩ := ax_bindE hJ
        refine aw_callSi (n := 38) (c_Mod_level hc1) Y_Mod_level km_Mod_110 (by decide) (by decide) rfl rfl (Nat.le_of_ble_eq_true rfl) d_Mod_reduce_35 rfl (fun r9 s9 hp => ?_)
        obtain ⟨rfl, rfl⟩ := hp
        refine aw_iload_n (n := 39) d_Mod_reduce_38 rfl rfl 1 rfl ?_
        refine aw_icmp_lt (n := 42) (t := 49) d_Mod_reduce_39 rfl (by decide) (fun c3 => ?_) (fun c3 => ?_)
        · rw [if_pos c3] at hJ
          exact aw_vret d_Mod_reduce_49 rfl (ax_retV hJ)
        · rw [if_neg c3] at hJ
          refine aw_aload_n (n := 43) d_Mod_reduce_42 rfl rfl 0 rfl ?_
          obtain ⟨σ2, hc2, hJ⟩ := ax_bindVE hJ
          refine aw_callVv (n := 46) (c_Mod_one hc2) 0 rfl rfl Y_Mod_one km_Mod_146 (by decide) (by decide) rfl rfl (Nat.le_of_ble_eq_true rfl) d_Mod_reduce_43 rfl (fun s9 hp => ?_)
          subst hp
          refine aw_goto (t := 0) d_Mod_reduce_46 (by decide) ?_
          exact ih _ _ hJ
set_option maxHeartbeats 1000000 in
theorem c_Mod_reduce {N : Nat} {g : ax_G} {a1 : Int32} {σ : St} {s9 : St} (hJ : J_Mod_reduce N a1 σ = some s9) : ax_CV μ_Mod_reduce g y_Mod_reduce (wM g) [.ref (g.2.1 32), .int a1] σ (ax_eqV s9) := by
  refine ax_CV.of (plainFor_of_name rfl) rfl (Nat.le_of_ble_eq_true rfl) (fun x A _ => ?_)
  show AW x μ_Mod_reduce g A (wM g) (0, 0) (ax_QV x μ_Mod_reduce g A (wM g) (ax_eqV s9)) 0 [(0, .ref (g.2.1 32)), (1, .int a1)] [] σ
  rw [J_Mod_reduce] at hJ
  exact t_Mod_reduce_0 x A N _ _ hJ
abbrev b_Mod_put : ByteArray := prog_10_method_17_code
def y_Mod_put : MethodName := ⟨"DotConsoleModel", "put", "(II)V"⟩
theorem d_Mod_put_0 : decode b_Mod_put 0 = .ok (.aload_n 0, 1) := by decide +kernel
theorem d_Mod_put_1 : decode b_Mod_put 1 = .ok (.getfield 54, 3) := by decide +kernel
theorem d_Mod_put_4 : decode b_Mod_put 4 = .ok (.aload_n 0, 1) := by decide +kernel
theorem d_Mod_put_5 : decode b_Mod_put 5 = .ok (.getfield 140, 3) := by decide +kernel
theorem d_Mod_put_8 : decode b_Mod_put 8 = .ok (.iload_n 1, 1) := by decide +kernel
theorem d_Mod_put_9 : decode b_Mod_put 9 = .ok (.iastore, 1) := by decide +kernel
theorem d_Mod_put_10 : decode b_Mod_put 10 = .ok (.aload_n 0, 1) := by decide +kernel
theorem d_Mod_put_11 : decode b_Mod_put 11 = .ok (.getfield 57, 3) := by decide +kernel
theorem d_Mod_put_14 : decode b_Mod_put 14 = .ok (.aload_n 0, 1) := by decide +kernel
theorem d_Mod_put_15 : decode b_Mod_put 15 = .ok (.getfield 140, 3) := by decide +kernel
theorem d_Mod_put_18 : decode b_Mod_put 18 = .ok (.iload_n 2, 1) := by decide +kernel
theorem d_Mod_put_19 : decode b_Mod_put 19 = .ok (.iastore, 1) := by decide +kernel
theorem d_Mod_put_20 : decode b_Mod_put 20 = .ok (.aload_n 0, 1) := by decide +kernel
theorem d_Mod_put_21 : decode b_Mod_put 21 = .ok (.dup, 1) := by decide +kernel
theorem d_Mod_put_22 : decode b_Mod_put 22 = .ok (.getfield 140, 3) := by decide +kernel
theorem d_Mod_put_25 : decode b_Mod_put 25 = .ok (.iconst 1, 1) := by decide +kernel
theorem d_Mod_put_26 : decode b_Mod_put 26 = .ok (.iadd, 1) := by decide +kernel
theorem d_Mod_put_27 : decode b_Mod_put 27 = .ok (.putfield 140, 3) := by decide +kernel
theorem d_Mod_put_30 : decode b_Mod_put 30 = .ok (.iload_n 2, 1) := by decide +kernel
theorem d_Mod_put_31 : decode b_Mod_put 31 = .ok (.aload_n 0, 1) := by decide +kernel
theorem d_Mod_put_32 : decode b_Mod_put 32 = .ok (.getfield 127, 3) := by decide +kernel
theorem d_Mod_put_35 : decode b_Mod_put 35 = .ok (.if_icmp .le 8, 3) := by decide +kernel
theorem d_Mod_put_38 : decode b_Mod_put 38 = .ok (.aload_n 0, 1) := by decide +kernel
theorem d_Mod_put_39 : decode b_Mod_put 39 = .ok (.iload_n 2, 1) := by decide +kernel
theorem d_Mod_put_40 : decode b_Mod_put 40 = .ok (.putfield 127, 3) := by decide +kernel
theorem d_Mod_put_43 : decode b_Mod_put 43 = .ok (.aload_n 0, 1) := by decide +kernel
theorem d_Mod_put_44 : decode b_Mod_put 44 = .ok (.getfield 143, 3) := by decide +kernel
theorem d_Mod_put_47 : decode b_Mod_put 47 = .ok (.ifCond .le 27, 3) := by decide +kernel
theorem d_Mod_put_50 : decode b_Mod_put 50 = .ok (.aload_n 0, 1) := by decide +kernel
theorem d_Mod_put_51 : decode b_Mod_put 51 = .ok (.getfield 60, 3) := by decide +kernel
theorem d_Mod_put_54 : decode b_Mod_put 54 = .ok (.aload_n 0, 1) := by decide +kernel
theorem d_Mod_put_55 : decode b_Mod_put 55 = .ok (.getfield 143, 3) := by decide +kernel
theorem d_Mod_put_58 : decode b_Mod_put 58 = .ok (.iconst 1, 1) := by decide +kernel
theorem d_Mod_put_59 : decode b_Mod_put 59 = .ok (.isub, 1) := by decide +kernel
theorem d_Mod_put_60 : decode b_Mod_put 60 = .ok (.iaload, 1) := by decide +kernel
theorem d_Mod_put_61 : decode b_Mod_put 61 = .ok (.sipush 1000, 3) := by decide +kernel
theorem d_Mod_put_64 : decode b_Mod_put 64 = .ok (.if_icmp .lt 10, 3) := by decide +kernel
theorem d_Mod_put_67 : decode b_Mod_put 67 = .ok (.aload_n 0, 1) := by decide +kernel
theorem d_Mod_put_68 : decode b_Mod_put 68 = .ok (.invokevirtual 146, 3) := by decide +kernel
theorem d_Mod_put_71 : decode b_Mod_put 71 = .ok (.goto (-28), 3) := by decide +kernel
theorem d_Mod_put_74 : decode b_Mod_put 74 = .ok (.return_, 1) := by decide +kernel
def μ_Mod_put : ax_M := (b_Mod_put, 3, "DotConsoleModel", none, 3, 68, 0, 0)
theorem Y_Mod_put : ax_YV μ_Mod_put y_Mod_put 2 := ⟨⟨ax_mem (by decide +kernel) rfl, ax_mem (by decide +kernel) rfl, by decide, by decide, by decide +kernel⟩, ax_mem (by decide +kernel) rfl, ax_mem (by decide +kernel) rfl⟩
def J_Mod_put_43 (N : Nat) : Nat → St → Option St
  | 0, _ => none
  | n + 1, σ => (if (σ.1 9) ≤ 0 then
  some σ
  else (if (inB ((σ.1 9) - 1) 110) = true then (if (σ.2 14 ((σ.1 9) - 1).toNatClampNeg) < 1000 then
  some σ
  else ax_bindV (J_Mod_one N σ) (fun σ5 =>
  J_Mod_put_43 N n σ5)) else none))
def J_Mod_put (N : Nat) (a1 : Int32) (a2 : Int32) (σ : St) : Option St :=
  (if (inB (σ.1 8) 60) = true then ax_let (sA σ 12 (σ.1 8).toNatClampNeg a1) (fun σ1 =>
  (if (inB (σ1.1 8) 60) = true then ax_let (sA σ1 13 (σ1.1 8).toNatClampNeg a2) (fun σ2 =>
  ax_let (sF σ2 8 ((σ2.1 8) + 1)) (fun σ3 =>
  (if a2 ≤ (σ3.1 12) then
  J_Mod_put_43 N N σ3
  else ax_let (sF σ3 12 a2) (fun σ4 =>
  J_Mod_put_43 N N σ4)))) else none)) else none)
set_option maxHeartbeats 1000000 in
theorem t_Mod_put_43 {N : Nat} {g : ax_G} {s9 : St} (x : ax_X) (A : Nat → Prop) : ∀ (n : Nat) (σ : St), J_Mod_put_43 N n σ = some s9 → AW x μ_Mod_put g A (wM g) (0, 0) (ax_QV x μ_Mod_put g A (wM g) (ax_eqV s9)) 43 [(0, .ref (g.2.1 32))] [] σ := by
  intro n
  induction n with
  | zero => intro σ hJ; rw [J_Mod_put_43] at hJ; cases hJ
  | succ n ih =>
    intro σ hJ
    rw [J_Mod_put_43] at hJ
    refine aw_aload_n (n := 44) d_Mod_put_43 rfl rfl 0 rfl ?_
    refine gf_Mod_opTop (n := 47) d_Mod_put_44 rfl kf_Mod_143 ?_
    refine aw_if_le (n := 50) (t := 74) d_Mod_put_47 rfl (by decide) (fun c2 => ?_) (fun c2 => ?_)
    · rw [if_pos c2] at hJ
      exact aw_vret d_Mod_put_74 rfl (ax_retV hJ)
    · rw [if_neg c2] at hJ
      refine aw_aload_n (n := 51) d_Mod_put_50 rfl rfl 0 rfl ?_
      refine gf_Mod_ops (n := 54) d_Mod_put_51 rfl kf_Mod_60 ?_
      refine aw_aload_n (n := 55) d_Mod_put_54 rfl rfl 0 rfl ?_
      refine gf_Mod_opTop (n := 58) d_Mod_put_55 rfl kf_Mod_143 ?_
      refine aw_iconst (n := 59) (v := 1) d_Mod_put_58 rfl (by decide) ?_
      refine aw_isub (n := 60) d_Mod_put_59 rfl ?_
      obtain ⟨h3, hJ⟩ := ax_need hJ
      refine al_47 (n := 61) d_Mod_put_60 rfl h3 ?_
      refine aw_sipush (n := 64) (v := 1000) d_Mod_put_61 rfl (by decide) ?_
      refine aw_icmp_lt (n := 67) (t := 74) d_Mod_put_64 rfl (by decide) (fun c3 => ?_) (fun c3 => ?_)
      · rw [if_pos c3] at hJ
        exact aw_vret d_Mod_put_74 rfl (ax_retV hJ)
      · rw [if_neg c3] at hJ
        refine aw_aload_n (n := 68) d_Mod_put_67 rfl rfl 0 rfl ?_
        obtain ⟨σ5, hc1, hJ⟩ := ax_bindVE hJ
        refine aw_callVv (n := 71) (c_Mod_one hc1) 0 rfl rfl Y_Mod_one km_Mod_146 (by decide) (by decide) rfl rfl (Nat.le_of_ble_eq_true rfl) d_Mod_put_68 rfl (fun s9 hp => ?_)
        subst hp
        refine aw_goto (t := 43) d_Mod_put_71 (by decide) ?_
        exact ih _ hJ
set_option maxHeartbeats 1000000 in
theorem c_Mod_put {N : Nat} {g : ax_G} {a1 : Int32} {a2 : Int32} {σ : St} {s9 : St} (hJ : J_Mod_put N a1 a2 σ = some s9) : ax_CV μ_Mod_put g y_Mod_put (wM g) [.ref (g.2.1 32), .int a1, .int a2] σ (ax_eqV s9) := by
  refine ax_CV.of (plainFor_of_name rfl) rfl (Nat.le_of_ble_eq_true rfl) (fun x A _ => ?_)
  show AW x μ_Mod_put g A (wM g) (0, 0) (ax_QV x μ_Mod_put g A (wM g) (ax_eqV s9)) 0 [(0, .ref (g.2.1 32)), (1, .int a1), (2, .int a2)] [] σ
  rw [J_Mod_put] at hJ
  refine aw_aload_n (n := 1) d_Mod_put_0 rfl rfl 0 rfl ?_
  refine gf_Mod_numbers (n := 4) d_Mod_put_1 rfl kf_Mod_54 ?_
  refine aw_aload_n (n := 5) d_Mod_put_4 rfl rfl 0 rfl ?_
  refine gf_Mod_top (n := 8) d_Mod_put_5 rfl kf_Mod_140 ?_
  refine aw_iload_n (n := 9) d_Mod_put_8 rfl rfl 1 rfl ?_
  obtain ⟨h1, hJ⟩ := ax_need hJ
  refine as_45 (n := 10) d_Mod_put_9 rfl h1 ?_
  obtain ⟨σ1, eσ1, hJ⟩ := ax_letE hJ
  refine aw_let eσ1 ?_
  refine aw_aload_n (n := 11) d_Mod_put_10 rfl rfl 0 rfl ?_
  refine gf_Mod_heights (n := 14) d_Mod_put_11 rfl kf_Mod_57 ?_
  refine aw_aload_n (n := 15) d_Mod_put_14 rfl rfl 0 rfl ?_
  refine gf_Mod_top (n := 18) d_Mod_put_15 rfl kf_Mod_140 ?_
  refine aw_iload_n (n := 19) d_Mod_put_18 rfl rfl 2 rfl ?_
  obtain ⟨h2, hJ⟩ := ax_need hJ
  refine as_46 (n := 20) d_Mod_put_19 rfl h2 ?_
  obtain ⟨σ2, eσ2, hJ⟩ := ax_letE hJ
  refine aw_let eσ2 ?_
  refine aw_aload_n (n := 21) d_Mod_put_20 rfl rfl 0 rfl ?_
  refine aw_dup (n := 22) d_Mod_put_21 rfl rfl ?_
  refine gf_Mod_top (n := 25) d_Mod_put_22 rfl kf_Mod_140 ?_
  refine aw_iconst (n := 26) (v := 1) d_Mod_put_25 rfl (by decide) ?_
  refine aw_iadd (n := 27) d_Mod_put_26 rfl ?_
  refine pf_Mod_top (n := 30) d_Mod_put_27 rfl kf_Mod_140 ?_
  obtain ⟨σ3, eσ3, hJ⟩ := ax_letE hJ
  refine aw_let eσ3 ?_
  refine aw_iload_n (n := 31) d_Mod_put_30 rfl rfl 2 rfl ?_
  refine aw_aload_n (n := 32) d_Mod_put_31 rfl rfl 0 rfl ?_
  refine gf_Mod_highest (n := 35) d_Mod_put_32 rfl kf_Mod_127 ?_
  refine aw_icmp_le (n := 38) (t := 43) d_Mod_put_35 rfl (by decide) (fun c1 => ?_) (fun c1 => ?_)
  · rw [if_pos c1] at hJ
    refine aw_sub [0] rfl ?_
    exact t_Mod_put_43 x A N _ hJ
  · rw [if_neg c1] at hJ
    refine aw_aload_n (n := 39) d_Mod_put_38 rfl rfl 0 rfl ?_
    refine aw_iload_n (n := 40) d_Mod_put_39 rfl rfl 2 rfl ?_
    refine pf_Mod_highest (n := 43) d_Mod_put_40 rfl kf_Mod_127 ?_
    obtain ⟨σ4, eσ4, hJ⟩ := ax_letE hJ
    refine aw_let eσ4 ?_
    refine aw_sub [0] rfl ?_
    exact t_Mod_put_43 x A N _ hJ
abbrev b_Mod_seen : ByteArray := prog_10_method_25_code
def y_Mod_seen : MethodName := ⟨"DotConsoleModel", "seen", "(II)Z"⟩
theorem d_Mod_seen_0 : decode b_Mod_seen 0 = .ok (.iload_n 0, 1) := by decide +kernel
theorem d_Mod_seen_1 : decode b_Mod_seen 1 = .ok (.ifCond .lt 23, 3) := by decide +kernel
theorem d_Mod_seen_4 : decode b_Mod_seen 4 = .ok (.iload_n 0, 1) := by decide +kernel
theorem d_Mod_seen_5 : decode b_Mod_seen 5 = .ok (.bipush 16, 2) := by decide +kernel
theorem d_Mod_seen_7 : decode b_Mod_seen 7 = .ok (.if_icmp .ge 17, 3) := by decide +kernel
theorem d_Mod_seen_10 : decode b_Mod_seen 10 = .ok (.iload_n 1, 1) := by decide +kernel
theorem d_Mod_seen_11 : decode b_Mod_seen 11 = .ok (.ifCond .lt 13, 3) := by decide +kernel
theorem d_Mod_seen_14 : decode b_Mod_seen 14 = .ok (.iload_n 1, 1) := by decide +kernel
theorem d_Mod_seen_15 : decode b_Mod_seen 15 = .ok (.bipush 16, 2) := by decide +kernel
theorem d_Mod_seen_17 : decode b_Mod_seen 17 = .ok (.if_icmp .ge 7, 3) := by decide +kernel
theorem d_Mod_seen_20 : decode b_Mod_seen 20 = .ok (.iconst 1, 1) := by decide +kernel
theorem d_Mod_seen_21 : decode b_Mod_seen 21 = .ok (.goto 4, 3) := by decide +kernel
theorem d_Mod_seen_24 : decode b_Mod_seen 24 = .ok (.iconst 0, 1) := by decide +kernel
theorem d_Mod_seen_25 : decode b_Mod_seen 25 = .ok (.ireturn, 1) := by decide +kernel
def μ_Mod_seen : ax_M := (b_Mod_seen, 2, "DotConsoleModel", (some .boolean), 0, 0, 0, 0)
theorem Y_Mod_seen : ax_YS μ_Mod_seen y_Mod_seen 2 := ⟨⟨ax_mem (by decide +kernel) rfl, ax_mem (by decide +kernel) rfl, by decide, by decide, by decide +kernel⟩, ax_mem (by decide +kernel) rfl⟩
def J_Mod_seen (N : Nat) (a0 : Int32) (a1 : Int32) (σ : St) : Option (Int32 × St) :=
  (if a0 < 0 then
  some (0, σ)
  else (if 16 ≤ a0 then
  some (0, σ)
  else (if a1 < 0 then
  some (0, σ)
  else (if 16 ≤ a1 then
  some (0, σ)
  else some (1, σ)))))
set_option maxHeartbeats 1000000 in
theorem c_Mod_seen {N : Nat} {g : ax_G} {a0 : Int32} {a1 : Int32} {σ : St} {r9 : Int32} {s9 : St} (hJ : J_Mod_seen N a0 a1 σ = some (r9, s9)) : ax_CI μ_Mod_seen g y_Mod_seen (wM g) [.int a0, .int a1] σ (ax_eqZ r9 s9) := by
  refine ax_CI.of (plainFor_of_name rfl) rfl (Nat.le_of_ble_eq_true rfl) (fun x A _ => ?_)
  show AW x μ_Mod_seen g A (wM g) (0, 0) (ax_QI x μ_Mod_seen g A (wM g) (ax_eqZ r9 s9)) 0 [(0, .int a0), (1, .int a1)] [] σ
  rw [J_Mod_seen] at hJ
  refine aw_iload_n (n := 1) d_Mod_seen_0 rfl rfl 0 rfl ?_
  refine aw_if_lt (n := 4) (t := 24) d_Mod_seen_1 rfl (by decide) (fun c1 => ?_) (fun c1 => ?_)
  · rw [if_pos c1] at hJ
    refine aw_iconst (n := 25) (v := 0) d_Mod_seen_24 rfl (by decide) ?_
    exact aw_zret d_Mod_seen_25 rfl rfl (ax_retZ hJ rfl)
  · rw [if_neg c1] at hJ
    refine aw_iload_n (n := 5) d_Mod_seen_4 rfl rfl 0 rfl ?_
    refine aw_bipush (n := 7) (v := 16) d_Mod_seen_5 rfl (by decide) ?_
    refine aw_icmp_ge (n := 10) (t := 24) d_Mod_seen_7 rfl (by decide) (fun c2 => ?_) (fun c2 => ?_)
    · rw [if_pos c2] at hJ
      refine aw_iconst (n := 25) (v := 0) d_Mod_seen_24 rfl (by decide) ?_
      exact aw_zret d_Mod_seen_25 rfl rfl (ax_retZ hJ rfl)
    · rw [if_neg c2] at hJ
      refine aw_iload_n (n := 11) d_Mod_seen_10 rfl rfl 1 rfl ?_
      refine aw_if_lt (n := 14) (t := 24) d_Mod_seen_11 rfl (by decide) (fun c3 => ?_) (fun c3 => ?_)
      · rw [if_pos c3] at hJ
        refine aw_iconst (n := 25) (v := 0) d_Mod_seen_24 rfl (by decide) ?_
        exact aw_zret d_Mod_seen_25 rfl rfl (ax_retZ hJ rfl)
      · rw [if_neg c3] at hJ
        refine aw_iload_n (n := 15) d_Mod_seen_14 rfl rfl 1 rfl ?_
        refine aw_bipush (n := 17) (v := 16) d_Mod_seen_15 rfl (by decide) ?_
        refine aw_icmp_ge (n := 20) (t := 24) d_Mod_seen_17 rfl (by decide) (fun c4 => ?_) (fun c4 => ?_)
        · rw [if_pos c4] at hJ
          refine aw_iconst (n := 25) (v := 0) d_Mod_seen_24 rfl (by decide) ?_
          exact aw_zret d_Mod_seen_25 rfl rfl (ax_retZ hJ rfl)
        · rw [if_neg c4] at hJ
          refine aw_iconst (n := 21) (v := 1) d_Mod_seen_20 rfl (by decide) ?_
          refine aw_goto (t := 25) d_Mod_seen_21 (by decide) ?_
          exact aw_zret d_Mod_seen_25 rfl rfl (ax_retZ hJ rfl)
