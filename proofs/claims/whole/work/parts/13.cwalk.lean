/-! WALKED: LineReader_takePart, LineReader_finish, LineReader_readExpressions, LineReader_readNothing, LineReader_readTarget, LineReader_readLine, LineReader_isTooLarge, Con_answerToStatement, LineReader_wrongPlace, Tokens_empty, Names_keepSeen, Program_append_9. Printed by wip/whole/build.py. -/
abbrev b_LineReader_takePart : ByteArray := prog_2_method_10_code
def y_LineReader_takePart : MethodName := ⟨"DotConsole$LineReader", "takePart", "(I)Z"⟩
theorem d_LineReader_takePart_0 : decode b_LineReader_takePart 0 = .ok (.iload_n 1, 1) := by decide +kernel
theorem d_LineReader_takePart_1 : decode b_LineReader_takePart 1 = .ok (.lookupswitch 136 #[(2, 59), (3, 79), (33, 117), (40, 127), (45, 106), (64, 117)], 59) := by decide +kernel
theorem d_LineReader_takePart_60 : decode b_LineReader_takePart 60 = .ok (.aload_n 0, 1) := by decide +kernel
theorem d_LineReader_takePart_61 : decode b_LineReader_takePart 61 = .ok (.iconst 2, 1) := by decide +kernel
theorem d_LineReader_takePart_62 : decode b_LineReader_takePart 62 = .ok (.aload_n 0, 1) := by decide +kernel
theorem d_LineReader_takePart_63 : decode b_LineReader_takePart 63 = .ok (.getfield 30, 3) := by decide +kernel
theorem d_LineReader_takePart_66 : decode b_LineReader_takePart 66 = .ok (.getfield 88, 3) := by decide +kernel
theorem d_LineReader_takePart_69 : decode b_LineReader_takePart 69 = .ok (.aload_n 0, 1) := by decide +kernel
theorem d_LineReader_takePart_70 : decode b_LineReader_takePart 70 = .ok (.getfield 50, 3) := by decide +kernel
theorem d_LineReader_takePart_73 : decode b_LineReader_takePart 73 = .ok (.iaload, 1) := by decide +kernel
theorem d_LineReader_takePart_74 : decode b_LineReader_takePart 74 = .ok (.iconst 0, 1) := by decide +kernel
theorem d_LineReader_takePart_75 : decode b_LineReader_takePart 75 = .ok (.invokevirtual 115, 3) := by decide +kernel
theorem d_LineReader_takePart_78 : decode b_LineReader_takePart 78 = .ok (.iconst 1, 1) := by decide +kernel
theorem d_LineReader_takePart_79 : decode b_LineReader_takePart 79 = .ok (.ireturn, 1) := by decide +kernel
theorem d_LineReader_takePart_80 : decode b_LineReader_takePart 80 = .ok (.aload_n 0, 1) := by decide +kernel
theorem d_LineReader_takePart_81 : decode b_LineReader_takePart 81 = .ok (.iconst 3, 1) := by decide +kernel
theorem d_LineReader_takePart_82 : decode b_LineReader_takePart 82 = .ok (.aload_n 0, 1) := by decide +kernel
theorem d_LineReader_takePart_83 : decode b_LineReader_takePart 83 = .ok (.getfield 34, 3) := by decide +kernel
theorem d_LineReader_takePart_86 : decode b_LineReader_takePart 86 = .ok (.aload_n 0, 1) := by decide +kernel
theorem d_LineReader_takePart_87 : decode b_LineReader_takePart 87 = .ok (.getfield 30, 3) := by decide +kernel
theorem d_LineReader_takePart_90 : decode b_LineReader_takePart 90 = .ok (.getfield 88, 3) := by decide +kernel
theorem d_LineReader_takePart_93 : decode b_LineReader_takePart 93 = .ok (.aload_n 0, 1) := by decide +kernel
theorem d_LineReader_takePart_94 : decode b_LineReader_takePart 94 = .ok (.getfield 50, 3) := by decide +kernel
theorem d_LineReader_takePart_97 : decode b_LineReader_takePart 97 = .ok (.iaload, 1) := by decide +kernel
theorem d_LineReader_takePart_98 : decode b_LineReader_takePart 98 = .ok (.invokevirtual 91, 3) := by decide +kernel
theorem d_LineReader_takePart_101 : decode b_LineReader_takePart 101 = .ok (.iconst 0, 1) := by decide +kernel
theorem d_LineReader_takePart_102 : decode b_LineReader_takePart 102 = .ok (.invokevirtual 115, 3) := by decide +kernel
theorem d_LineReader_takePart_105 : decode b_LineReader_takePart 105 = .ok (.iconst 1, 1) := by decide +kernel
theorem d_LineReader_takePart_106 : decode b_LineReader_takePart 106 = .ok (.ireturn, 1) := by decide +kernel
theorem d_LineReader_takePart_107 : decode b_LineReader_takePart 107 = .ok (.aload_n 0, 1) := by decide +kernel
theorem d_LineReader_takePart_108 : decode b_LineReader_takePart 108 = .ok (.bipush 21, 2) := by decide +kernel
theorem d_LineReader_takePart_110 : decode b_LineReader_takePart 110 = .ok (.bipush 6, 2) := by decide +kernel
theorem d_LineReader_takePart_112 : decode b_LineReader_takePart 112 = .ok (.iconst 0, 1) := by decide +kernel
theorem d_LineReader_takePart_113 : decode b_LineReader_takePart 113 = .ok (.invokevirtual 119, 3) := by decide +kernel
theorem d_LineReader_takePart_116 : decode b_LineReader_takePart 116 = .ok (.iconst 1, 1) := by decide +kernel
theorem d_LineReader_takePart_117 : decode b_LineReader_takePart 117 = .ok (.ireturn, 1) := by decide +kernel
theorem d_LineReader_takePart_118 : decode b_LineReader_takePart 118 = .ok (.aload_n 0, 1) := by decide +kernel
theorem d_LineReader_takePart_119 : decode b_LineReader_takePart 119 = .ok (.iload_n 1, 1) := by decide +kernel
theorem d_LineReader_takePart_120 : decode b_LineReader_takePart 120 = .ok (.bipush 6, 2) := by decide +kernel
theorem d_LineReader_takePart_122 : decode b_LineReader_takePart 122 = .ok (.iconst 0, 1) := by decide +kernel
theorem d_LineReader_takePart_123 : decode b_LineReader_takePart 123 = .ok (.invokevirtual 119, 3) := by decide +kernel
theorem d_LineReader_takePart_126 : decode b_LineReader_takePart 126 = .ok (.iconst 1, 1) := by decide +kernel
theorem d_LineReader_takePart_127 : decode b_LineReader_takePart 127 = .ok (.ireturn, 1) := by decide +kernel
theorem d_LineReader_takePart_128 : decode b_LineReader_takePart 128 = .ok (.aload_n 0, 1) := by decide +kernel
theorem d_LineReader_takePart_129 : decode b_LineReader_takePart 129 = .ok (.iload_n 1, 1) := by decide +kernel
theorem d_LineReader_takePart_130 : decode b_LineReader_takePart 130 = .ok (.iconst 0, 1) := by decide +kernel
theorem d_LineReader_takePart_131 : decode b_LineReader_takePart 131 = .ok (.iconst 0, 1) := by decide +kernel
theorem d_LineReader_takePart_132 : decode b_LineReader_takePart 132 = .ok (.invokevirtual 119, 3) := by decide +kernel
theorem d_LineReader_takePart_135 : decode b_LineReader_takePart 135 = .ok (.iconst 1, 1) := by decide +kernel
theorem d_LineReader_takePart_136 : decode b_LineReader_takePart 136 = .ok (.ireturn, 1) := by decide +kernel
theorem d_LineReader_takePart_137 : decode b_LineReader_takePart 137 = .ok (.iload_n 1, 1) := by decide +kernel
theorem d_LineReader_takePart_138 : decode b_LineReader_takePart 138 = .ok (.invokestatic 122, 3) := by decide +kernel
theorem d_LineReader_takePart_141 : decode b_LineReader_takePart 141 = .ok (.ifCond .eq 15, 3) := by decide +kernel
theorem d_LineReader_takePart_144 : decode b_LineReader_takePart 144 = .ok (.aload_n 0, 1) := by decide +kernel
theorem d_LineReader_takePart_145 : decode b_LineReader_takePart 145 = .ok (.iload_n 1, 1) := by decide +kernel
theorem d_LineReader_takePart_146 : decode b_LineReader_takePart 146 = .ok (.invokevirtual 125, 3) := by decide +kernel
theorem d_LineReader_takePart_149 : decode b_LineReader_takePart 149 = .ok (.ifCond .eq 7, 3) := by decide +kernel
theorem d_LineReader_takePart_152 : decode b_LineReader_takePart 152 = .ok (.iconst 1, 1) := by decide +kernel
theorem d_LineReader_takePart_153 : decode b_LineReader_takePart 153 = .ok (.goto 4, 3) := by decide +kernel
theorem d_LineReader_takePart_156 : decode b_LineReader_takePart 156 = .ok (.iconst 0, 1) := by decide +kernel
theorem d_LineReader_takePart_157 : decode b_LineReader_takePart 157 = .ok (.ireturn, 1) := by decide +kernel
def μ_LineReader_takePart : ax_M := (b_LineReader_takePart, 2, "DotConsole$LineReader", (some .boolean), 2, 46, 0, 0)
theorem Y_LineReader_takePart : ax_YV μ_LineReader_takePart y_LineReader_takePart 1 := ⟨⟨ax_mem (by decide +kernel) rfl, ax_mem (by decide +kernel) rfl, by decide, by decide, by decide +kernel⟩, ax_mem (by decide +kernel) rfl, ax_mem (by decide +kernel) rfl⟩
theorem kf_LineReader_88 : Cond.fieldLink "DotConsole$LineReader" 88 "DotConsole$Tokens" "meanings" "[I" ∈ ax_T := ax_mem (by decide +kernel) rfl
theorem km_LineReader_91 : Cond.methodLink "DotConsole$LineReader" 91 ⟨"DotConsole$Names", "findOrSee", "(I)I"⟩ ∈ ax_T := ax_mem (by decide +kernel) rfl
theorem km_LineReader_122 : Cond.methodLinkNest "DotConsole$LineReader" 122 ⟨"DotConsole", "isBuiltIn", "(I)Z"⟩ "DotConsole" ∈ ax_N := by decide +kernel
theorem km_LineReader_125 : Cond.methodLink "DotConsole$LineReader" 125 ⟨"DotConsole$LineReader", "takeBuiltIn", "(I)Z"⟩ ∈ ax_T := ax_mem (by decide +kernel) rfl
def J_LineReader_takePart (N : Nat) (a1 : Int32) (σ : St) : Option (Int32 × St) :=
  (if a1 = 2 then (if (inB (σ.1 7) 49) = true then ax_bindV (J_LineReader_emit N 2 (σ.2 4 (σ.1 7).toNatClampNeg) 0 σ) (fun σ1 =>
  some (1, σ1)) else none)
  else (if a1 = 3 then (if (inB (σ.1 7) 49) = true then ax_bind (J_Names_findOrSee N (σ.2 4 (σ.1 7).toNatClampNeg) σ) (fun r1 σ2 =>
  ax_bindV (J_LineReader_emit N 3 r1 0 σ2) (fun σ3 =>
  some (1, σ3))) else none)
  else (if a1 = 33 then ax_bindV (J_LineReader_hold N a1 6 0 σ) (fun σ4 =>
  some (1, σ4))
  else (if a1 = 40 then ax_bindV (J_LineReader_hold N a1 0 0 σ) (fun σ5 =>
  some (1, σ5))
  else (if a1 = 45 then ax_bindV (J_LineReader_hold N 21 6 0 σ) (fun σ6 =>
  some (1, σ6))
  else (if a1 = 64 then ax_bindV (J_LineReader_hold N a1 6 0 σ) (fun σ7 =>
  some (1, σ7))
  else ax_bind (J_Con_isBuiltIn N a1 σ) (fun r2 σ8 =>
  (if r2 = 0 then
  some (0, σ8)
  else ax_bind (J_LineReader_takeBuiltIn N a1 σ8) (fun r3 σ9 =>
  (if r3 = 0 then
  some (0, σ9)
  else some (1, σ9)))))))))))
set_option maxHeartbeats 1000000 in
theorem c_LineReader_takePart {N : Nat} {g : ax_G} {a1 : Int32} {σ : St} {r9 : Int32} {s9 : St} (hJ : J_LineReader_takePart N a1 σ = some (r9, s9)) : ax_CI μ_LineReader_takePart g y_LineReader_takePart (wC g) [.ref (g.2.1 9), .int a1] σ (ax_eqZ r9 s9) := by
  refine ax_CI.of (plainFor_of_name rfl) rfl (Nat.le_of_ble_eq_true rfl) (fun x A _ => ?_)
  show AW x μ_LineReader_takePart g A (wC g) (0, 0) (ax_QI x μ_LineReader_takePart g A (wC g) (ax_eqZ r9 s9)) 0 [(0, .ref (g.2.1 9)), (1, .int a1)] [] σ
  rw [J_LineReader_takePart] at hJ
  refine aw_iload_n (n := 1) d_LineReader_takePart_0 rfl rfl 1 rfl ?_
  rcases ax_ifE hJ with ⟨c1, hJ⟩ | ⟨c1, hJ⟩
  · refine aw_lookup (t := 60) (off := 59) d_LineReader_takePart_1 (by decide) (by first | (rw [c1]; done) | (rw [c1]; decide)) (by decide) ?_
    refine aw_aload_n (n := 61) d_LineReader_takePart_60 rfl rfl 0 rfl ?_
    refine aw_iconst (n := 62) (v := 2) d_LineReader_takePart_61 rfl (by decide) ?_
    refine aw_aload_n (n := 63) d_LineReader_takePart_62 rfl rfl 0 rfl ?_
    refine gf_LineReader_tokens (n := 66) d_LineReader_takePart_63 rfl kf_LineReader_30 ?_
    refine gf_Tokens_meanings (n := 69) d_LineReader_takePart_66 rfl kf_LineReader_88 ?_
    refine aw_aload_n (n := 70) d_LineReader_takePart_69 rfl rfl 0 rfl ?_
    refine gf_LineReader_at (n := 73) d_LineReader_takePart_70 rfl kf_LineReader_50 ?_
    obtain ⟨h1, hJ⟩ := ax_need hJ
    refine al_6 (n := 74) d_LineReader_takePart_73 rfl h1 ?_
    refine aw_iconst (n := 75) (v := 0) d_LineReader_takePart_74 rfl (by decide) ?_
    obtain ⟨σ1, hc1, hJ⟩ := ax_bindVE hJ
    refine aw_callVv (n := 78) (c_LineReader_emit hc1) 9 rfl rfl Y_LineReader_emit km_LineReader_115 (by decide) (by decide) rfl rfl (Nat.le_of_ble_eq_true rfl) d_LineReader_takePart_75 rfl (fun s9 hp => ?_)
    subst hp
    refine aw_iconst (n := 79) (v := 1) d_LineReader_takePart_78 rfl (by decide) ?_
    exact aw_zret d_LineReader_takePart_79 rfl rfl (ax_retZ hJ rfl)
  rcases ax_ifE hJ with ⟨c2, hJ⟩ | ⟨c2, hJ⟩
  · refine aw_lookup (t := 80) (off := 79) d_LineReader_takePart_1 (by decide) (by first | (rw [c2]; done) | (rw [c2]; decide)) (by decide) ?_
    refine aw_aload_n (n := 81) d_LineReader_takePart_80 rfl rfl 0 rfl ?_
    refine aw_iconst (n := 82) (v := 3) d_LineReader_takePart_81 rfl (by decide) ?_
    refine aw_aload_n (n := 83) d_LineReader_takePart_82 rfl rfl 0 rfl ?_
    refine gf_LineReader_names (n := 86) d_LineReader_takePart_83 rfl kf_LineReader_34 ?_
    refine aw_aload_n (n := 87) d_LineReader_takePart_86 rfl rfl 0 rfl ?_
    refine gf_LineReader_tokens (n := 90) d_LineReader_takePart_87 rfl kf_LineReader_30 ?_
    refine gf_Tokens_meanings (n := 93) d_LineReader_takePart_90 rfl kf_LineReader_88 ?_
    refine aw_aload_n (n := 94) d_LineReader_takePart_93 rfl rfl 0 rfl ?_
    refine gf_LineReader_at (n := 97) d_LineReader_takePart_94 rfl kf_LineReader_50 ?_
    obtain ⟨h2, hJ⟩ := ax_need hJ
    refine al_6 (n := 98) d_LineReader_takePart_97 rfl h2 ?_
    obtain ⟨r1, σ2, hc2, hJ⟩ := ax_bindE hJ
    refine aw_callVi (n := 101) (c_Names_findOrSee hc2) 7 rfl rfl Y_Names_findOrSee km_LineReader_91 (by decide) (by decide) rfl rfl (Nat.le_of_ble_eq_true rfl) d_LineReader_takePart_98 rfl (fun r9 s9 hp => ?_)
    obtain ⟨rfl, rfl⟩ := hp
    refine aw_iconst (n := 102) (v := 0) d_LineReader_takePart_101 rfl (by decide) ?_
    obtain ⟨σ3, hc3, hJ⟩ := ax_bindVE hJ
    refine aw_callVv (n := 105) (c_LineReader_emit hc3) 9 rfl rfl Y_LineReader_emit km_LineReader_115 (by decide) (by decide) rfl rfl (Nat.le_of_ble_eq_true rfl) d_LineReader_takePart_102 rfl (fun s9 hp => ?_)
    subst hp
    refine aw_iconst (n := 106) (v := 1) d_LineReader_takePart_105 rfl (by decide) ?_
    exact aw_zret d_LineReader_takePart_106 rfl rfl (ax_retZ hJ rfl)
  rcases ax_ifE hJ with ⟨c3, hJ⟩ | ⟨c3, hJ⟩
  · refine aw_lookup (t := 118) (off := 117) d_LineReader_takePart_1 (by decide) (by first | (rw [c3]; done) | (rw [c3]; decide)) (by decide) ?_
    refine aw_aload_n (n := 119) d_LineReader_takePart_118 rfl rfl 0 rfl ?_
    refine aw_iload_n (n := 120) d_LineReader_takePart_119 rfl rfl 1 rfl ?_
    refine aw_bipush (n := 122) (v := 6) d_LineReader_takePart_120 rfl (by decide) ?_
    refine aw_iconst (n := 123) (v := 0) d_LineReader_takePart_122 rfl (by decide) ?_
    obtain ⟨σ4, hc4, hJ⟩ := ax_bindVE hJ
    refine aw_callVv (n := 126) (c_LineReader_hold hc4) 9 rfl rfl Y_LineReader_hold km_LineReader_119 (by decide) (by decide) rfl rfl (Nat.le_of_ble_eq_true rfl) d_LineReader_takePart_123 rfl (fun s9 hp => ?_)
    subst hp
    refine aw_iconst (n := 127) (v := 1) d_LineReader_takePart_126 rfl (by decide) ?_
    exact aw_zret d_LineReader_takePart_127 rfl rfl (ax_retZ hJ rfl)
  rcases ax_ifE hJ with ⟨c4, hJ⟩ | ⟨c4, hJ⟩
  · refine aw_lookup (t := 128) (off := 127) d_LineReader_takePart_1 (by decide) (by first | (rw [c4]; done) | (rw [c4]; decide)) (by decide) ?_
    refine aw_aload_n (n := 129) d_LineReader_takePart_128 rfl rfl 0 rfl ?_
    refine aw_iload_n (n := 130) d_LineReader_takePart_129 rfl rfl 1 rfl ?_
    refine aw_iconst (n := 131) (v := 0) d_LineReader_takePart_130 rfl (by decide) ?_
    refine aw_iconst (n := 132) (v := 0) d_LineReader_takePart_131 rfl (by decide) ?_
    obtain ⟨σ5, hc5, hJ⟩ := ax_bindVE hJ
    refine aw_callVv (n := 135) (c_LineReader_hold hc5) 9 rfl rfl Y_LineReader_hold km_LineReader_119 (by decide) (by decide) rfl rfl (Nat.le_of_ble_eq_true rfl) d_LineReader_takePart_132 rfl (fun s9 hp => ?_)
    subst hp
    refine aw_iconst (n := 136) (v := 1) d_LineReader_takePart_135 rfl (by decide) ?_
    exact aw_zret d_LineReader_takePart_136 rfl rfl (ax_retZ hJ rfl)
  rcases ax_ifE hJ with ⟨c5, hJ⟩ | ⟨c5, hJ⟩
  · refine aw_lookup (t := 107) (off := 106) d_LineReader_takePart_1 (by decide) (by first | (rw [c5]; done) | (rw [c5]; decide)) (by decide) ?_
    refine aw_aload_n (n := 108) d_LineReader_takePart_107 rfl rfl 0 rfl ?_
    refine aw_bipush (n := 110) (v := 21) d_LineReader_takePart_108 rfl (by decide) ?_
    refine aw_bipush (n := 112) (v := 6) d_LineReader_takePart_110 rfl (by decide) ?_
    refine aw_iconst (n := 113) (v := 0) d_LineReader_takePart_112 rfl (by decide) ?_
    obtain ⟨σ6, hc6, hJ⟩ := ax_bindVE hJ
    refine aw_callVv (n := 116) (c_LineReader_hold hc6) 9 rfl rfl Y_LineReader_hold km_LineReader_119 (by decide) (by decide) rfl rfl (Nat.le_of_ble_eq_true rfl) d_LineReader_takePart_113 rfl (fun s9 hp => ?_)
    subst hp
    refine aw_iconst (n := 117) (v := 1) d_LineReader_takePart_116 rfl (by decide) ?_
    exact aw_zret d_LineReader_takePart_117 rfl rfl (ax_retZ hJ rfl)
  rcases ax_ifE hJ with ⟨c6, hJ⟩ | ⟨c6, hJ⟩
  · refine aw_lookup (t := 118) (off := 117) d_LineReader_takePart_1 (by decide) (by first | (rw [c6]; done) | (rw [c6]; decide)) (by decide) ?_
    refine aw_aload_n (n := 119) d_LineReader_takePart_118 rfl rfl 0 rfl ?_
    refine aw_iload_n (n := 120) d_LineReader_takePart_119 rfl rfl 1 rfl ?_
    refine aw_bipush (n := 122) (v := 6) d_LineReader_takePart_120 rfl (by decide) ?_
    refine aw_iconst (n := 123) (v := 0) d_LineReader_takePart_122 rfl (by decide) ?_
    obtain ⟨σ7, hc7, hJ⟩ := ax_bindVE hJ
    refine aw_callVv (n := 126) (c_LineReader_hold hc7) 9 rfl rfl Y_LineReader_hold km_LineReader_119 (by decide) (by decide) rfl rfl (Nat.le_of_ble_eq_true rfl) d_LineReader_takePart_123 rfl (fun s9 hp => ?_)
    subst hp
    refine aw_iconst (n := 127) (v := 1) d_LineReader_takePart_126 rfl (by decide) ?_
    exact aw_zret d_LineReader_takePart_127 rfl rfl (ax_retZ hJ rfl)
  refine aw_lookup (t := 137) (off := 136) d_LineReader_takePart_1 (by decide) (show Op.lookupswitch.offset [(2, 59), (3, 79), (33, 117), (40, 127), (45, 106), (64, 117)] 136 _ = 136 by rw [lv_osw (a := 2) c1 (by decide), lv_osw (a := 3) c2 (by decide), lv_osw (a := 33) c3 (by decide), lv_osw (a := 40) c4 (by decide), lv_osw (a := 45) c5 (by decide), lv_osw (a := 64) c6 (by decide)]; rfl) (by decide) ?_
  refine aw_iload_n (n := 138) d_LineReader_takePart_137 rfl rfl 1 rfl ?_
  obtain ⟨r2, σ8, hc8, hJ⟩ := ax_bindE hJ
  refine aw_callSNi (n := 141) (c_Con_isBuiltIn hc8) Y_Con_isBuiltIn km_LineReader_122 (by decide) (by decide) rfl rfl (Nat.le_of_ble_eq_true rfl) d_LineReader_takePart_138 rfl (fun r9 s9 hp => ?_)
  obtain ⟨rfl, rfl, hb1⟩ := hp
  refine aw_if_eq (n := 144) (t := 156) d_LineReader_takePart_141 rfl (by decide) (fun c7 => ?_) (fun c7 => ?_)
  · rw [if_pos c7] at hJ
    refine aw_iconst (n := 157) (v := 0) d_LineReader_takePart_156 rfl (by decide) ?_
    exact aw_zret d_LineReader_takePart_157 rfl rfl (ax_retZ hJ rfl)
  · rw [if_neg c7] at hJ
    refine aw_aload_n (n := 145) d_LineReader_takePart_144 rfl rfl 0 rfl ?_
    refine aw_iload_n (n := 146) d_LineReader_takePart_145 rfl rfl 1 rfl ?_
    obtain ⟨r3, σ9, hc9, hJ⟩ := ax_bindE hJ
    refine aw_callVi (n := 149) (c_LineReader_takeBuiltIn hc9) 9 rfl rfl Y_LineReader_takeBuiltIn km_LineReader_125 (by decide) (by decide) rfl rfl (Nat.le_of_ble_eq_true rfl) d_LineReader_takePart_146 rfl (fun r9 s9 hp => ?_)
    obtain ⟨rfl, rfl, hb2⟩ := hp
    refine aw_if_eq (n := 152) (t := 156) d_LineReader_takePart_149 rfl (by decide) (fun c8 => ?_) (fun c8 => ?_)
    · rw [if_pos c8] at hJ
      refine aw_iconst (n := 157) (v := 0) d_LineReader_takePart_156 rfl (by decide) ?_
      exact aw_zret d_LineReader_takePart_157 rfl rfl (ax_retZ hJ rfl)
    · rw [if_neg c8] at hJ
      refine aw_iconst (n := 153) (v := 1) d_LineReader_takePart_152 rfl (by decide) ?_
      refine aw_goto (t := 157) d_LineReader_takePart_153 (by decide) ?_
      exact aw_zret d_LineReader_takePart_157 rfl rfl (ax_retZ hJ rfl)
abbrev b_LineReader_finish : ByteArray := prog_2_method_9_code
def y_LineReader_finish : MethodName := ⟨"DotConsole$LineReader", "finish", "()Z"⟩
theorem d_LineReader_finish_0 : decode b_LineReader_finish 0 = .ok (.aload_n 0, 1) := by decide +kernel
theorem d_LineReader_finish_1 : decode b_LineReader_finish 1 = .ok (.getfield 98, 3) := by decide +kernel
theorem d_LineReader_finish_4 : decode b_LineReader_finish 4 = .ok (.ifCond .ne 10, 3) := by decide +kernel
theorem d_LineReader_finish_7 : decode b_LineReader_finish 7 = .ok (.aload_n 0, 1) := by decide +kernel
theorem d_LineReader_finish_8 : decode b_LineReader_finish 8 = .ok (.getfield 95, 3) := by decide +kernel
theorem d_LineReader_finish_11 : decode b_LineReader_finish 11 = .ok (.ifCond .le 5, 3) := by decide +kernel
theorem d_LineReader_finish_14 : decode b_LineReader_finish 14 = .ok (.iconst 0, 1) := by decide +kernel
theorem d_LineReader_finish_15 : decode b_LineReader_finish 15 = .ok (.ireturn, 1) := by decide +kernel
theorem d_LineReader_finish_16 : decode b_LineReader_finish 16 = .ok (.aload_n 0, 1) := by decide +kernel
theorem d_LineReader_finish_17 : decode b_LineReader_finish 17 = .ok (.iconst 1, 1) := by decide +kernel
theorem d_LineReader_finish_18 : decode b_LineReader_finish 18 = .ok (.invokevirtual 111, 3) := by decide +kernel
theorem d_LineReader_finish_21 : decode b_LineReader_finish 21 = .ok (.aload_n 0, 1) := by decide +kernel
theorem d_LineReader_finish_22 : decode b_LineReader_finish 22 = .ok (.getfield 85, 3) := by decide +kernel
theorem d_LineReader_finish_25 : decode b_LineReader_finish 25 = .ok (.ifCond .ne 7, 3) := by decide +kernel
theorem d_LineReader_finish_28 : decode b_LineReader_finish 28 = .ok (.iconst 1, 1) := by decide +kernel
theorem d_LineReader_finish_29 : decode b_LineReader_finish 29 = .ok (.goto 4, 3) := by decide +kernel
theorem d_LineReader_finish_32 : decode b_LineReader_finish 32 = .ok (.iconst 0, 1) := by decide +kernel
theorem d_LineReader_finish_33 : decode b_LineReader_finish 33 = .ok (.ireturn, 1) := by decide +kernel
def μ_LineReader_finish : ax_M := (b_LineReader_finish, 1, "DotConsole$LineReader", (some .boolean), 3, 68, 0, 0)
theorem Y_LineReader_finish : ax_YV μ_LineReader_finish y_LineReader_finish 0 := ⟨⟨ax_mem (by decide +kernel) rfl, ax_mem (by decide +kernel) rfl, by decide, by decide, by decide +kernel⟩, ax_mem (by decide +kernel) rfl, ax_mem (by decide +kernel) rfl⟩
def J_LineReader_finish (N : Nat) (σ : St) : Option (Int32 × St) :=
  (if (σ.1 15) = 0 then
  (if (σ.1 14) ≤ 0 then
  ax_bindV (J_LineReader_unwind N 1 σ) (fun σ1 =>
  (if (σ1.1 13) = 0 then
  some (1, σ1)
  else some (0, σ1)))
  else some (0, σ))
  else some (0, σ))
set_option maxHeartbeats 1000000 in
theorem c_LineReader_finish {N : Nat} {g : ax_G} {σ : St} {r9 : Int32} {s9 : St} (hJ : J_LineReader_finish N σ = some (r9, s9)) : ax_CI μ_LineReader_finish g y_LineReader_finish (wC g) [.ref (g.2.1 9)] σ (ax_eqZ r9 s9) := by
  refine ax_CI.of (plainFor_of_name rfl) rfl (Nat.le_of_ble_eq_true rfl) (fun x A _ => ?_)
  show AW x μ_LineReader_finish g A (wC g) (0, 0) (ax_QI x μ_LineReader_finish g A (wC g) (ax_eqZ r9 s9)) 0 [(0, .ref (g.2.1 9))] [] σ
  rw [J_LineReader_finish] at hJ
  refine aw_aload_n (n := 1) d_LineReader_finish_0 rfl rfl 0 rfl ?_
  refine gf_LineReader_wantsPart (n := 4) d_LineReader_finish_1 rfl kf_LineReader_98 ?_
  refine aw_if_ne (n := 7) (t := 14) d_LineReader_finish_4 rfl (by decide) (fun c1 => ?_) (fun c1 => ?_)
  · rw [if_neg c1] at hJ
    refine aw_iconst (n := 15) (v := 0) d_LineReader_finish_14 rfl (by decide) ?_
    exact aw_zret d_LineReader_finish_15 rfl rfl (ax_retZ hJ rfl)
  · rw [if_pos c1] at hJ
    refine aw_aload_n (n := 8) d_LineReader_finish_7 rfl rfl 0 rfl ?_
    refine gf_LineReader_outerCommasDue (n := 11) d_LineReader_finish_8 rfl kf_LineReader_95 ?_
    refine aw_if_le (n := 14) (t := 16) d_LineReader_finish_11 rfl (by decide) (fun c2 => ?_) (fun c2 => ?_)
    · rw [if_pos c2] at hJ
      refine aw_aload_n (n := 17) d_LineReader_finish_16 rfl rfl 0 rfl ?_
      refine aw_iconst (n := 18) (v := 1) d_LineReader_finish_17 rfl (by decide) ?_
      obtain ⟨σ1, hc1, hJ⟩ := ax_bindVE hJ
      refine aw_callVv (n := 21) (c_LineReader_unwind hc1) 9 rfl rfl Y_LineReader_unwind km_LineReader_111 (by decide) (by decide) rfl rfl (Nat.le_of_ble_eq_true rfl) d_LineReader_finish_18 rfl (fun s9 hp => ?_)
      subst hp
      refine aw_aload_n (n := 22) d_LineReader_finish_21 rfl rfl 0 rfl ?_
      refine gf_LineReader_waitingCount (n := 25) d_LineReader_finish_22 rfl kf_LineReader_85 ?_
      refine aw_if_ne (n := 28) (t := 32) d_LineReader_finish_25 rfl (by decide) (fun c3 => ?_) (fun c3 => ?_)
      · rw [if_neg c3] at hJ
        refine aw_iconst (n := 33) (v := 0) d_LineReader_finish_32 rfl (by decide) ?_
        exact aw_zret d_LineReader_finish_33 rfl rfl (ax_retZ hJ rfl)
      · rw [if_pos c3] at hJ
        refine aw_iconst (n := 29) (v := 1) d_LineReader_finish_28 rfl (by decide) ?_
        refine aw_goto (t := 33) d_LineReader_finish_29 (by decide) ?_
        exact aw_zret d_LineReader_finish_33 rfl rfl (ax_retZ hJ rfl)
    · rw [if_neg c2] at hJ
      refine aw_iconst (n := 15) (v := 0) d_LineReader_finish_14 rfl (by decide) ?_
      exact aw_zret d_LineReader_finish_15 rfl rfl (ax_retZ hJ rfl)
abbrev b_LineReader_readExpressions : ByteArray := prog_2_method_8_code
def y_LineReader_readExpressions : MethodName := ⟨"DotConsole$LineReader", "readExpressions", "(I)Z"⟩
theorem d_LineReader_readExpressions_0 : decode b_LineReader_readExpressions 0 = .ok (.aload_n 0, 1) := by decide +kernel
theorem d_LineReader_readExpressions_1 : decode b_LineReader_readExpressions 1 = .ok (.iload_n 1, 1) := by decide +kernel
theorem d_LineReader_readExpressions_2 : decode b_LineReader_readExpressions 2 = .ok (.iconst 1, 1) := by decide +kernel
theorem d_LineReader_readExpressions_3 : decode b_LineReader_readExpressions 3 = .ok (.isub, 1) := by decide +kernel
theorem d_LineReader_readExpressions_4 : decode b_LineReader_readExpressions 4 = .ok (.putfield 95, 3) := by decide +kernel
theorem d_LineReader_readExpressions_7 : decode b_LineReader_readExpressions 7 = .ok (.aload_n 0, 1) := by decide +kernel
theorem d_LineReader_readExpressions_8 : decode b_LineReader_readExpressions 8 = .ok (.iconst 1, 1) := by decide +kernel
theorem d_LineReader_readExpressions_9 : decode b_LineReader_readExpressions 9 = .ok (.putfield 98, 3) := by decide +kernel
theorem d_LineReader_readExpressions_12 : decode b_LineReader_readExpressions 12 = .ok (.aload_n 0, 1) := by decide +kernel
theorem d_LineReader_readExpressions_13 : decode b_LineReader_readExpressions 13 = .ok (.getfield 50, 3) := by decide +kernel
theorem d_LineReader_readExpressions_16 : decode b_LineReader_readExpressions 16 = .ok (.bipush 48, 2) := by decide +kernel
theorem d_LineReader_readExpressions_18 : decode b_LineReader_readExpressions 18 = .ok (.if_icmp .ge 66, 3) := by decide +kernel
theorem d_LineReader_readExpressions_21 : decode b_LineReader_readExpressions 21 = .ok (.aload_n 0, 1) := by decide +kernel
theorem d_LineReader_readExpressions_22 : decode b_LineReader_readExpressions 22 = .ok (.dup, 1) := by decide +kernel
theorem d_LineReader_readExpressions_23 : decode b_LineReader_readExpressions 23 = .ok (.getfield 50, 3) := by decide +kernel
theorem d_LineReader_readExpressions_26 : decode b_LineReader_readExpressions 26 = .ok (.iconst 1, 1) := by decide +kernel
theorem d_LineReader_readExpressions_27 : decode b_LineReader_readExpressions 27 = .ok (.iadd, 1) := by decide +kernel
theorem d_LineReader_readExpressions_28 : decode b_LineReader_readExpressions 28 = .ok (.putfield 50, 3) := by decide +kernel
theorem d_LineReader_readExpressions_31 : decode b_LineReader_readExpressions 31 = .ok (.aload_n 0, 1) := by decide +kernel
theorem d_LineReader_readExpressions_32 : decode b_LineReader_readExpressions 32 = .ok (.getfield 30, 3) := by decide +kernel
theorem d_LineReader_readExpressions_35 : decode b_LineReader_readExpressions 35 = .ok (.getfield 56, 3) := by decide +kernel
theorem d_LineReader_readExpressions_38 : decode b_LineReader_readExpressions 38 = .ok (.aload_n 0, 1) := by decide +kernel
theorem d_LineReader_readExpressions_39 : decode b_LineReader_readExpressions 39 = .ok (.getfield 50, 3) := by decide +kernel
theorem d_LineReader_readExpressions_42 : decode b_LineReader_readExpressions 42 = .ok (.iaload, 1) := by decide +kernel
theorem d_LineReader_readExpressions_43 : decode b_LineReader_readExpressions 43 = .ok (.istore_n 2, 1) := by decide +kernel
theorem d_LineReader_readExpressions_44 : decode b_LineReader_readExpressions 44 = .ok (.iload_n 2, 1) := by decide +kernel
theorem d_LineReader_readExpressions_45 : decode b_LineReader_readExpressions 45 = .ok (.ifCond .ne 8, 3) := by decide +kernel
theorem d_LineReader_readExpressions_48 : decode b_LineReader_readExpressions 48 = .ok (.aload_n 0, 1) := by decide +kernel
theorem d_LineReader_readExpressions_49 : decode b_LineReader_readExpressions 49 = .ok (.invokevirtual 102, 3) := by decide +kernel
theorem d_LineReader_readExpressions_52 : decode b_LineReader_readExpressions 52 = .ok (.ireturn, 1) := by decide +kernel
theorem d_LineReader_readExpressions_53 : decode b_LineReader_readExpressions 53 = .ok (.aload_n 0, 1) := by decide +kernel
theorem d_LineReader_readExpressions_54 : decode b_LineReader_readExpressions 54 = .ok (.getfield 98, 3) := by decide +kernel
theorem d_LineReader_readExpressions_57 : decode b_LineReader_readExpressions 57 = .ok (.ifCond .eq 14, 3) := by decide +kernel
theorem d_LineReader_readExpressions_60 : decode b_LineReader_readExpressions 60 = .ok (.aload_n 0, 1) := by decide +kernel
theorem d_LineReader_readExpressions_61 : decode b_LineReader_readExpressions 61 = .ok (.iload_n 2, 1) := by decide +kernel
theorem d_LineReader_readExpressions_62 : decode b_LineReader_readExpressions 62 = .ok (.invokevirtual 105, 3) := by decide +kernel
theorem d_LineReader_readExpressions_65 : decode b_LineReader_readExpressions 65 = .ok (.ifCond .eq 14, 3) := by decide +kernel
theorem d_LineReader_readExpressions_68 : decode b_LineReader_readExpressions 68 = .ok (.goto 13, 3) := by decide +kernel
theorem d_LineReader_readExpressions_71 : decode b_LineReader_readExpressions 71 = .ok (.aload_n 0, 1) := by decide +kernel
theorem d_LineReader_readExpressions_72 : decode b_LineReader_readExpressions 72 = .ok (.iload_n 2, 1) := by decide +kernel
theorem d_LineReader_readExpressions_73 : decode b_LineReader_readExpressions 73 = .ok (.invokevirtual 108, 3) := by decide +kernel
theorem d_LineReader_readExpressions_76 : decode b_LineReader_readExpressions 76 = .ok (.ifCond .ne 5, 3) := by decide +kernel
theorem d_LineReader_readExpressions_79 : decode b_LineReader_readExpressions 79 = .ok (.iconst 0, 1) := by decide +kernel
theorem d_LineReader_readExpressions_80 : decode b_LineReader_readExpressions 80 = .ok (.ireturn, 1) := by decide +kernel
theorem d_LineReader_readExpressions_81 : decode b_LineReader_readExpressions 81 = .ok (.goto (-69), 3) := by decide +kernel
theorem d_LineReader_readExpressions_84 : decode b_LineReader_readExpressions 84 = .ok (.iconst 0, 1) := by decide +kernel
theorem d_LineReader_readExpressions_85 : decode b_LineReader_readExpressions 85 = .ok (.ireturn, 1) := by decide +kernel
def μ_LineReader_readExpressions : ax_M := (b_LineReader_readExpressions, 3, "DotConsole$LineReader", (some .boolean), 5, 111, 0, 0)
theorem Y_LineReader_readExpressions : ax_YV μ_LineReader_readExpressions y_LineReader_readExpressions 1 := ⟨⟨ax_mem (by decide +kernel) rfl, ax_mem (by decide +kernel) rfl, by decide, by decide, by decide +kernel⟩, ax_mem (by decide +kernel) rfl, ax_mem (by decide +kernel) rfl⟩
theorem km_LineReader_108 : Cond.methodLink "DotConsole$LineReader" 108 ⟨"DotConsole$LineReader", "takeJoin", "(I)Z"⟩ ∈ ax_T := ax_mem (by decide +kernel) rfl
theorem km_LineReader_105 : Cond.methodLink "DotConsole$LineReader" 105 ⟨"DotConsole$LineReader", "takePart", "(I)Z"⟩ ∈ ax_T := ax_mem (by decide +kernel) rfl
theorem km_LineReader_102 : Cond.methodLink "DotConsole$LineReader" 102 ⟨"DotConsole$LineReader", "finish", "()Z"⟩ ∈ ax_T := ax_mem (by decide +kernel) rfl
def J_LineReader_readExpressions_12 (N : Nat) : Nat → St → Option (Int32 × St)
  | 0, _ => none
  | n + 1, σ => (if 48 ≤ (σ.1 7) then
  some (0, σ)
  else ax_let (sF σ 7 ((σ.1 7) + 1)) (fun σ3 =>
  (if (inB (σ3.1 7) 49) = true then ax_let ((σ3.2 2 (σ3.1 7).toNatClampNeg) : Int32) (fun v1 =>
  (if v1 = 0 then
  ax_bind (J_LineReader_finish N σ3) (fun r3 σ6 =>
  some (r3, σ6))
  else (if (σ3.1 15) = 0 then
  ax_bind (J_LineReader_takeJoin N v1 σ3) (fun r1 σ4 =>
  (if r1 = 0 then
  some (0, σ4)
  else J_LineReader_readExpressions_12 N n σ4))
  else ax_bind (J_LineReader_takePart N v1 σ3) (fun r2 σ5 =>
  (if r2 = 0 then
  some (0, σ5)
  else J_LineReader_readExpressions_12 N n σ5))))) else none)))
def J_LineReader_readExpressions (N : Nat) (a1 : Int32) (σ : St) : Option (Int32 × St) :=
  ax_let (sF σ 14 (a1 - 1)) (fun σ1 =>
  ax_let (sF σ1 15 1) (fun σ2 =>
  J_LineReader_readExpressions_12 N N σ2))
set_option maxHeartbeats 1000000 in
theorem t_LineReader_readExpressions_12 {N : Nat} {g : ax_G} {r9 : Int32} {s9 : St} (x : ax_X) (A : Nat → Prop) : ∀ (n : Nat) (σ : St), J_LineReader_readExpressions_12 N n σ = some (r9, s9) → AW x μ_LineReader_readExpressions g A (wC g) (0, 0) (ax_QI x μ_LineReader_readExpressions g A (wC g) (ax_eqZ r9 s9)) 12 [(0, .ref (g.2.1 9))] [] σ := by
  intro n
  induction n with
  | zero => intro σ hJ; rw [J_LineReader_readExpressions_12] at hJ; cases hJ
  | succ n ih =>
    intro σ hJ
    rw [J_LineReader_readExpressions_12] at hJ
    refine aw_aload_n (n := 13) d_LineReader_readExpressions_12 rfl rfl 0 rfl ?_
    refine gf_LineReader_at (n := 16) d_LineReader_readExpressions_13 rfl kf_LineReader_50 ?_
    refine aw_bipush (n := 18) (v := 48) d_LineReader_readExpressions_16 rfl (by decide) ?_
    refine aw_icmp_ge (n := 21) (t := 84) d_LineReader_readExpressions_18 rfl (by decide) (fun c1 => ?_) (fun c1 => ?_)
    · rw [if_pos c1] at hJ
      refine aw_iconst (n := 85) (v := 0) d_LineReader_readExpressions_84 rfl (by decide) ?_
      exact aw_zret d_LineReader_readExpressions_85 rfl rfl (ax_retZ hJ rfl)
    · rw [if_neg c1] at hJ
      refine aw_aload_n (n := 22) d_LineReader_readExpressions_21 rfl rfl 0 rfl ?_
      refine aw_dup (n := 23) d_LineReader_readExpressions_22 rfl rfl ?_
      refine gf_LineReader_at (n := 26) d_LineReader_readExpressions_23 rfl kf_LineReader_50 ?_
      refine aw_iconst (n := 27) (v := 1) d_LineReader_readExpressions_26 rfl (by decide) ?_
      refine aw_iadd (n := 28) d_LineReader_readExpressions_27 rfl ?_
      refine pf_LineReader_at (n := 31) d_LineReader_readExpressions_28 rfl kf_LineReader_50 ?_
      obtain ⟨σ3, eσ3, hJ⟩ := ax_letE hJ
      refine aw_let eσ3 ?_
      refine aw_aload_n (n := 32) d_LineReader_readExpressions_31 rfl rfl 0 rfl ?_
      refine gf_LineReader_tokens (n := 35) d_LineReader_readExpressions_32 rfl kf_LineReader_30 ?_
      refine gf_Tokens_kinds (n := 38) d_LineReader_readExpressions_35 rfl kf_LineReader_56 ?_
      refine aw_aload_n (n := 39) d_LineReader_readExpressions_38 rfl rfl 0 rfl ?_
      refine gf_LineReader_at (n := 42) d_LineReader_readExpressions_39 rfl kf_LineReader_50 ?_
      obtain ⟨h1, hJ⟩ := ax_need hJ
      refine al_4 (n := 43) d_LineReader_readExpressions_42 rfl h1 ?_
      obtain ⟨v1, ev1, hJ⟩ := ax_letE hJ
      refine aw_top ev1 ?_
      refine aw_istore_n (n := 44) d_LineReader_readExpressions_43 rfl rfl (by decide) rfl ?_
      refine aw_iload_n (n := 45) d_LineReader_readExpressions_44 rfl rfl 0 rfl ?_
      refine aw_if_ne (n := 48) (t := 53) d_LineReader_readExpressions_45 rfl (by decide) (fun c2 => ?_) (fun c2 => ?_)
      · rw [if_neg c2] at hJ
        refine aw_aload_n (n := 54) d_LineReader_readExpressions_53 rfl rfl 1 rfl ?_
        refine gf_LineReader_wantsPart (n := 57) d_LineReader_readExpressions_54 rfl kf_LineReader_98 ?_
        refine aw_if_eq (n := 60) (t := 71) d_LineReader_readExpressions_57 rfl (by decide) (fun c3 => ?_) (fun c3 => ?_)
        · rw [if_pos c3] at hJ
          refine aw_aload_n (n := 72) d_LineReader_readExpressions_71 rfl rfl 1 rfl ?_
          refine aw_iload_n (n := 73) d_LineReader_readExpressions_72 rfl rfl 0 rfl ?_
          obtain ⟨r1, σ4, hc1, hJ⟩ := ax_bindE hJ
          refine aw_callVi (n := 76) (c_LineReader_takeJoin hc1) 9 rfl rfl Y_LineReader_takeJoin km_LineReader_108 (by decide) (by decide) rfl rfl (Nat.le_of_ble_eq_true rfl) d_LineReader_readExpressions_73 rfl (fun r9 s9 hp => ?_)
          obtain ⟨rfl, rfl, hb1⟩ := hp
          refine aw_if_ne (n := 79) (t := 81) d_LineReader_readExpressions_76 rfl (by decide) (fun c4 => ?_) (fun c4 => ?_)
          · rw [if_neg c4] at hJ
            refine aw_goto (t := 12) d_LineReader_readExpressions_81 (by decide) ?_
            refine aw_sub [1] rfl ?_
            exact ih _ hJ
          · rw [if_pos c4] at hJ
            refine aw_iconst (n := 80) (v := 0) d_LineReader_readExpressions_79 rfl (by decide) ?_
            exact aw_zret d_LineReader_readExpressions_80 rfl rfl (ax_retZ hJ rfl)
        · rw [if_neg c3] at hJ
          refine aw_aload_n (n := 61) d_LineReader_readExpressions_60 rfl rfl 1 rfl ?_
          refine aw_iload_n (n := 62) d_LineReader_readExpressions_61 rfl rfl 0 rfl ?_
          obtain ⟨r2, σ5, hc2, hJ⟩ := ax_bindE hJ
          refine aw_callVi (n := 65) (c_LineReader_takePart hc2) 9 rfl rfl Y_LineReader_takePart km_LineReader_105 (by decide) (by decide) rfl rfl (Nat.le_of_ble_eq_true rfl) d_LineReader_readExpressions_62 rfl (fun r9 s9 hp => ?_)
          obtain ⟨rfl, rfl, hb2⟩ := hp
          refine aw_if_eq (n := 68) (t := 79) d_LineReader_readExpressions_65 rfl (by decide) (fun c5 => ?_) (fun c5 => ?_)
          · rw [if_pos c5] at hJ
            refine aw_iconst (n := 80) (v := 0) d_LineReader_readExpressions_79 rfl (by decide) ?_
            exact aw_zret d_LineReader_readExpressions_80 rfl rfl (ax_retZ hJ rfl)
          · rw [if_neg c5] at hJ
            refine aw_goto (t := 81) d_LineReader_readExpressions_68 (by decide) ?_
            refine aw_goto (t := 12) d_LineReader_readExpressions_81 (by decide) ?_
            refine aw_sub [1] rfl ?_
            exact ih _ hJ
      · rw [if_pos c2] at hJ
        refine aw_aload_n (n := 49) d_LineReader_readExpressions_48 rfl rfl 1 rfl ?_
        obtain ⟨r3, σ6, hc3, hJ⟩ := ax_bindE hJ
        refine aw_callVi (n := 52) (c_LineReader_finish hc3) 9 rfl rfl Y_LineReader_finish km_LineReader_102 (by decide) (by decide) rfl rfl (Nat.le_of_ble_eq_true rfl) d_LineReader_readExpressions_49 rfl (fun r9 s9 hp => ?_)
        obtain ⟨rfl, rfl, hb3⟩ := hp
        exact aw_zret d_LineReader_readExpressions_52 rfl hb3 (ax_retZ hJ hb3)
set_option maxHeartbeats 1000000 in
theorem c_LineReader_readExpressions {N : Nat} {g : ax_G} {a1 : Int32} {σ : St} {r9 : Int32} {s9 : St} (hJ : J_LineReader_readExpressions N a1 σ = some (r9, s9)) : ax_CI μ_LineReader_readExpressions g y_LineReader_readExpressions (wC g) [.ref (g.2.1 9), .int a1] σ (ax_eqZ r9 s9) := by
  refine ax_CI.of (plainFor_of_name rfl) rfl (Nat.le_of_ble_eq_true rfl) (fun x A _ => ?_)
  show AW x μ_LineReader_readExpressions g A (wC g) (0, 0) (ax_QI x μ_LineReader_readExpressions g A (wC g) (ax_eqZ r9 s9)) 0 [(0, .ref (g.2.1 9)), (1, .int a1)] [] σ
  rw [J_LineReader_readExpressions] at hJ
  refine aw_aload_n (n := 1) d_LineReader_readExpressions_0 rfl rfl 0 rfl ?_
  refine aw_iload_n (n := 2) d_LineReader_readExpressions_1 rfl rfl 1 rfl ?_
  refine aw_iconst (n := 3) (v := 1) d_LineReader_readExpressions_2 rfl (by decide) ?_
  refine aw_isub (n := 4) d_LineReader_readExpressions_3 rfl ?_
  refine pf_LineReader_outerCommasDue (n := 7) d_LineReader_readExpressions_4 rfl kf_LineReader_95 ?_
  obtain ⟨σ1, eσ1, hJ⟩ := ax_letE hJ
  refine aw_let eσ1 ?_
  refine aw_aload_n (n := 8) d_LineReader_readExpressions_7 rfl rfl 0 rfl ?_
  refine aw_iconst (n := 9) (v := 1) d_LineReader_readExpressions_8 rfl (by decide) ?_
  refine pf_LineReader_wantsPart (n := 12) d_LineReader_readExpressions_9 rfl kf_LineReader_98 rfl rfl ?_
  obtain ⟨σ2, eσ2, hJ⟩ := ax_letE hJ
  refine aw_let eσ2 ?_
  refine aw_sub [0] rfl ?_
  exact t_LineReader_readExpressions_12 x A N _ hJ
abbrev b_LineReader_readNothing : ByteArray := prog_2_method_7_code
def y_LineReader_readNothing : MethodName := ⟨"DotConsole$LineReader", "readNothing", "()Z"⟩
theorem d_LineReader_readNothing_0 : decode b_LineReader_readNothing 0 = .ok (.aload_n 0, 1) := by decide +kernel
theorem d_LineReader_readNothing_1 : decode b_LineReader_readNothing 1 = .ok (.dup, 1) := by decide +kernel
theorem d_LineReader_readNothing_2 : decode b_LineReader_readNothing 2 = .ok (.getfield 50, 3) := by decide +kernel
theorem d_LineReader_readNothing_5 : decode b_LineReader_readNothing 5 = .ok (.iconst 1, 1) := by decide +kernel
theorem d_LineReader_readNothing_6 : decode b_LineReader_readNothing 6 = .ok (.iadd, 1) := by decide +kernel
theorem d_LineReader_readNothing_7 : decode b_LineReader_readNothing 7 = .ok (.putfield 50, 3) := by decide +kernel
theorem d_LineReader_readNothing_10 : decode b_LineReader_readNothing 10 = .ok (.aload_n 0, 1) := by decide +kernel
theorem d_LineReader_readNothing_11 : decode b_LineReader_readNothing 11 = .ok (.getfield 30, 3) := by decide +kernel
theorem d_LineReader_readNothing_14 : decode b_LineReader_readNothing 14 = .ok (.getfield 56, 3) := by decide +kernel
theorem d_LineReader_readNothing_17 : decode b_LineReader_readNothing 17 = .ok (.aload_n 0, 1) := by decide +kernel
theorem d_LineReader_readNothing_18 : decode b_LineReader_readNothing 18 = .ok (.getfield 50, 3) := by decide +kernel
theorem d_LineReader_readNothing_21 : decode b_LineReader_readNothing 21 = .ok (.iaload, 1) := by decide +kernel
theorem d_LineReader_readNothing_22 : decode b_LineReader_readNothing 22 = .ok (.ifCond .ne 7, 3) := by decide +kernel
theorem d_LineReader_readNothing_25 : decode b_LineReader_readNothing 25 = .ok (.iconst 1, 1) := by decide +kernel
theorem d_LineReader_readNothing_26 : decode b_LineReader_readNothing 26 = .ok (.goto 4, 3) := by decide +kernel
theorem d_LineReader_readNothing_29 : decode b_LineReader_readNothing 29 = .ok (.iconst 0, 1) := by decide +kernel
theorem d_LineReader_readNothing_30 : decode b_LineReader_readNothing 30 = .ok (.ireturn, 1) := by decide +kernel
def μ_LineReader_readNothing : ax_M := (b_LineReader_readNothing, 1, "DotConsole$LineReader", (some .boolean), 0, 0, 0, 0)
theorem Y_LineReader_readNothing : ax_YV μ_LineReader_readNothing y_LineReader_readNothing 0 := ⟨⟨ax_mem (by decide +kernel) rfl, ax_mem (by decide +kernel) rfl, by decide, by decide, by decide +kernel⟩, ax_mem (by decide +kernel) rfl, ax_mem (by decide +kernel) rfl⟩
def J_LineReader_readNothing (N : Nat) (σ : St) : Option (Int32 × St) :=
  ax_let (sF σ 7 ((σ.1 7) + 1)) (fun σ1 =>
  (if (inB (σ1.1 7) 49) = true then (if (σ1.2 2 (σ1.1 7).toNatClampNeg) = 0 then
  some (1, σ1)
  else some (0, σ1)) else none))
set_option maxHeartbeats 1000000 in
theorem c_LineReader_readNothing {N : Nat} {g : ax_G} {σ : St} {r9 : Int32} {s9 : St} (hJ : J_LineReader_readNothing N σ = some (r9, s9)) : ax_CI μ_LineReader_readNothing g y_LineReader_readNothing (wC g) [.ref (g.2.1 9)] σ (ax_eqZ r9 s9) := by
  refine ax_CI.of (plainFor_of_name rfl) rfl (Nat.le_of_ble_eq_true rfl) (fun x A _ => ?_)
  show AW x μ_LineReader_readNothing g A (wC g) (0, 0) (ax_QI x μ_LineReader_readNothing g A (wC g) (ax_eqZ r9 s9)) 0 [(0, .ref (g.2.1 9))] [] σ
  rw [J_LineReader_readNothing] at hJ
  refine aw_aload_n (n := 1) d_LineReader_readNothing_0 rfl rfl 0 rfl ?_
  refine aw_dup (n := 2) d_LineReader_readNothing_1 rfl rfl ?_
  refine gf_LineReader_at (n := 5) d_LineReader_readNothing_2 rfl kf_LineReader_50 ?_
  refine aw_iconst (n := 6) (v := 1) d_LineReader_readNothing_5 rfl (by decide) ?_
  refine aw_iadd (n := 7) d_LineReader_readNothing_6 rfl ?_
  refine pf_LineReader_at (n := 10) d_LineReader_readNothing_7 rfl kf_LineReader_50 ?_
  obtain ⟨σ1, eσ1, hJ⟩ := ax_letE hJ
  refine aw_let eσ1 ?_
  refine aw_aload_n (n := 11) d_LineReader_readNothing_10 rfl rfl 0 rfl ?_
  refine gf_LineReader_tokens (n := 14) d_LineReader_readNothing_11 rfl kf_LineReader_30 ?_
  refine gf_Tokens_kinds (n := 17) d_LineReader_readNothing_14 rfl kf_LineReader_56 ?_
  refine aw_aload_n (n := 18) d_LineReader_readNothing_17 rfl rfl 0 rfl ?_
  refine gf_LineReader_at (n := 21) d_LineReader_readNothing_18 rfl kf_LineReader_50 ?_
  obtain ⟨h1, hJ⟩ := ax_need hJ
  refine al_4 (n := 22) d_LineReader_readNothing_21 rfl h1 ?_
  refine aw_if_ne (n := 25) (t := 29) d_LineReader_readNothing_22 rfl (by decide) (fun c1 => ?_) (fun c1 => ?_)
  · rw [if_neg c1] at hJ
    refine aw_iconst (n := 30) (v := 0) d_LineReader_readNothing_29 rfl (by decide) ?_
    exact aw_zret d_LineReader_readNothing_30 rfl rfl (ax_retZ hJ rfl)
  · rw [if_pos c1] at hJ
    refine aw_iconst (n := 26) (v := 1) d_LineReader_readNothing_25 rfl (by decide) ?_
    refine aw_goto (t := 30) d_LineReader_readNothing_26 (by decide) ?_
    exact aw_zret d_LineReader_readNothing_30 rfl rfl (ax_retZ hJ rfl)
abbrev b_LineReader_readTarget : ByteArray := prog_2_method_6_code
def y_LineReader_readTarget : MethodName := ⟨"DotConsole$LineReader", "readTarget", "()Z"⟩
theorem d_LineReader_readTarget_0 : decode b_LineReader_readTarget 0 = .ok (.aload_n 0, 1) := by decide +kernel
theorem d_LineReader_readTarget_1 : decode b_LineReader_readTarget 1 = .ok (.aload_n 0, 1) := by decide +kernel
theorem d_LineReader_readTarget_2 : decode b_LineReader_readTarget 2 = .ok (.getfield 34, 3) := by decide +kernel
theorem d_LineReader_readTarget_5 : decode b_LineReader_readTarget 5 = .ok (.aload_n 0, 1) := by decide +kernel
theorem d_LineReader_readTarget_6 : decode b_LineReader_readTarget 6 = .ok (.getfield 30, 3) := by decide +kernel
theorem d_LineReader_readTarget_9 : decode b_LineReader_readTarget 9 = .ok (.getfield 88, 3) := by decide +kernel
theorem d_LineReader_readTarget_12 : decode b_LineReader_readTarget 12 = .ok (.aload_n 0, 1) := by decide +kernel
theorem d_LineReader_readTarget_13 : decode b_LineReader_readTarget 13 = .ok (.getfield 50, 3) := by decide +kernel
theorem d_LineReader_readTarget_16 : decode b_LineReader_readTarget 16 = .ok (.iaload, 1) := by decide +kernel
theorem d_LineReader_readTarget_17 : decode b_LineReader_readTarget 17 = .ok (.invokevirtual 91, 3) := by decide +kernel
theorem d_LineReader_readTarget_20 : decode b_LineReader_readTarget 20 = .ok (.putfield 79, 3) := by decide +kernel
theorem d_LineReader_readTarget_23 : decode b_LineReader_readTarget 23 = .ok (.aload_n 0, 1) := by decide +kernel
theorem d_LineReader_readTarget_24 : decode b_LineReader_readTarget 24 = .ok (.dup, 1) := by decide +kernel
theorem d_LineReader_readTarget_25 : decode b_LineReader_readTarget 25 = .ok (.getfield 50, 3) := by decide +kernel
theorem d_LineReader_readTarget_28 : decode b_LineReader_readTarget 28 = .ok (.iconst 1, 1) := by decide +kernel
theorem d_LineReader_readTarget_29 : decode b_LineReader_readTarget 29 = .ok (.iadd, 1) := by decide +kernel
theorem d_LineReader_readTarget_30 : decode b_LineReader_readTarget 30 = .ok (.putfield 50, 3) := by decide +kernel
theorem d_LineReader_readTarget_33 : decode b_LineReader_readTarget 33 = .ok (.aload_n 0, 1) := by decide +kernel
theorem d_LineReader_readTarget_34 : decode b_LineReader_readTarget 34 = .ok (.getfield 30, 3) := by decide +kernel
theorem d_LineReader_readTarget_37 : decode b_LineReader_readTarget 37 = .ok (.getfield 56, 3) := by decide +kernel
theorem d_LineReader_readTarget_40 : decode b_LineReader_readTarget 40 = .ok (.aload_n 0, 1) := by decide +kernel
theorem d_LineReader_readTarget_41 : decode b_LineReader_readTarget 41 = .ok (.getfield 50, 3) := by decide +kernel
theorem d_LineReader_readTarget_44 : decode b_LineReader_readTarget 44 = .ok (.iaload, 1) := by decide +kernel
theorem d_LineReader_readTarget_45 : decode b_LineReader_readTarget 45 = .ok (.bipush 61, 2) := by decide +kernel
theorem d_LineReader_readTarget_47 : decode b_LineReader_readTarget 47 = .ok (.if_icmp .ne 7, 3) := by decide +kernel
theorem d_LineReader_readTarget_50 : decode b_LineReader_readTarget 50 = .ok (.iconst 1, 1) := by decide +kernel
theorem d_LineReader_readTarget_51 : decode b_LineReader_readTarget 51 = .ok (.goto 4, 3) := by decide +kernel
theorem d_LineReader_readTarget_54 : decode b_LineReader_readTarget 54 = .ok (.iconst 0, 1) := by decide +kernel
theorem d_LineReader_readTarget_55 : decode b_LineReader_readTarget 55 = .ok (.ireturn, 1) := by decide +kernel
def μ_LineReader_readTarget : ax_M := (b_LineReader_readTarget, 1, "DotConsole$LineReader", (some .boolean), 1, 22, 0, 0)
theorem Y_LineReader_readTarget : ax_YV μ_LineReader_readTarget y_LineReader_readTarget 0 := ⟨⟨ax_mem (by decide +kernel) rfl, ax_mem (by decide +kernel) rfl, by decide, by decide, by decide +kernel⟩, ax_mem (by decide +kernel) rfl, ax_mem (by decide +kernel) rfl⟩
def J_LineReader_readTarget (N : Nat) (σ : St) : Option (Int32 × St) :=
  (if (inB (σ.1 7) 49) = true then ax_bind (J_Names_findOrSee N (σ.2 4 (σ.1 7).toNatClampNeg) σ) (fun r1 σ1 =>
  ax_let (sF σ1 9 r1) (fun σ2 =>
  ax_let (sF σ2 7 ((σ2.1 7) + 1)) (fun σ3 =>
  (if (inB (σ3.1 7) 49) = true then (if (σ3.2 2 (σ3.1 7).toNatClampNeg) = 61 then
  some (1, σ3)
  else some (0, σ3)) else none)))) else none)
set_option maxHeartbeats 1000000 in
theorem c_LineReader_readTarget {N : Nat} {g : ax_G} {σ : St} {r9 : Int32} {s9 : St} (hJ : J_LineReader_readTarget N σ = some (r9, s9)) : ax_CI μ_LineReader_readTarget g y_LineReader_readTarget (wC g) [.ref (g.2.1 9)] σ (ax_eqZ r9 s9) := by
  refine ax_CI.of (plainFor_of_name rfl) rfl (Nat.le_of_ble_eq_true rfl) (fun x A _ => ?_)
  show AW x μ_LineReader_readTarget g A (wC g) (0, 0) (ax_QI x μ_LineReader_readTarget g A (wC g) (ax_eqZ r9 s9)) 0 [(0, .ref (g.2.1 9))] [] σ
  rw [J_LineReader_readTarget] at hJ
  refine aw_aload_n (n := 1) d_LineReader_readTarget_0 rfl rfl 0 rfl ?_
  refine aw_aload_n (n := 2) d_LineReader_readTarget_1 rfl rfl 0 rfl ?_
  refine gf_LineReader_names (n := 5) d_LineReader_readTarget_2 rfl kf_LineReader_34 ?_
  refine aw_aload_n (n := 6) d_LineReader_readTarget_5 rfl rfl 0 rfl ?_
  refine gf_LineReader_tokens (n := 9) d_LineReader_readTarget_6 rfl kf_LineReader_30 ?_
  refine gf_Tokens_meanings (n := 12) d_LineReader_readTarget_9 rfl kf_LineReader_88 ?_
  refine aw_aload_n (n := 13) d_LineReader_readTarget_12 rfl rfl 0 rfl ?_
  refine gf_LineReader_at (n := 16) d_LineReader_readTarget_13 rfl kf_LineReader_50 ?_
  obtain ⟨h1, hJ⟩ := ax_need hJ
  refine al_6 (n := 17) d_LineReader_readTarget_16 rfl h1 ?_
  obtain ⟨r1, σ1, hc1, hJ⟩ := ax_bindE hJ
  refine aw_callVi (n := 20) (c_Names_findOrSee hc1) 7 rfl rfl Y_Names_findOrSee km_LineReader_91 (by decide) (by decide) rfl rfl (Nat.le_of_ble_eq_true rfl) d_LineReader_readTarget_17 rfl (fun r9 s9 hp => ?_)
  obtain ⟨rfl, rfl⟩ := hp
  refine pf_LineReader_target (n := 23) d_LineReader_readTarget_20 rfl kf_LineReader_79 ?_
  obtain ⟨σ2, eσ2, hJ⟩ := ax_letE hJ
  refine aw_let eσ2 ?_
  refine aw_aload_n (n := 24) d_LineReader_readTarget_23 rfl rfl 0 rfl ?_
  refine aw_dup (n := 25) d_LineReader_readTarget_24 rfl rfl ?_
  refine gf_LineReader_at (n := 28) d_LineReader_readTarget_25 rfl kf_LineReader_50 ?_
  refine aw_iconst (n := 29) (v := 1) d_LineReader_readTarget_28 rfl (by decide) ?_
  refine aw_iadd (n := 30) d_LineReader_readTarget_29 rfl ?_
  refine pf_LineReader_at (n := 33) d_LineReader_readTarget_30 rfl kf_LineReader_50 ?_
  obtain ⟨σ3, eσ3, hJ⟩ := ax_letE hJ
  refine aw_let eσ3 ?_
  refine aw_aload_n (n := 34) d_LineReader_readTarget_33 rfl rfl 0 rfl ?_
  refine gf_LineReader_tokens (n := 37) d_LineReader_readTarget_34 rfl kf_LineReader_30 ?_
  refine gf_Tokens_kinds (n := 40) d_LineReader_readTarget_37 rfl kf_LineReader_56 ?_
  refine aw_aload_n (n := 41) d_LineReader_readTarget_40 rfl rfl 0 rfl ?_
  refine gf_LineReader_at (n := 44) d_LineReader_readTarget_41 rfl kf_LineReader_50 ?_
  obtain ⟨h2, hJ⟩ := ax_need hJ
  refine al_4 (n := 45) d_LineReader_readTarget_44 rfl h2 ?_
  refine aw_bipush (n := 47) (v := 61) d_LineReader_readTarget_45 rfl (by decide) ?_
  refine aw_icmp_ne (n := 50) (t := 54) d_LineReader_readTarget_47 rfl (by decide) (fun c1 => ?_) (fun c1 => ?_)
  · rw [if_neg c1] at hJ
    refine aw_iconst (n := 55) (v := 0) d_LineReader_readTarget_54 rfl (by decide) ?_
    exact aw_zret d_LineReader_readTarget_55 rfl rfl (ax_retZ hJ rfl)
  · rw [if_pos c1] at hJ
    refine aw_iconst (n := 51) (v := 1) d_LineReader_readTarget_50 rfl (by decide) ?_
    refine aw_goto (t := 55) d_LineReader_readTarget_51 (by decide) ?_
    exact aw_zret d_LineReader_readTarget_55 rfl rfl (ax_retZ hJ rfl)
abbrev b_LineReader_readLine : ByteArray := prog_2_method_4_code
def y_LineReader_readLine : MethodName := ⟨"DotConsole$LineReader", "readLine", "()Z"⟩
theorem d_LineReader_readLine_0 : decode b_LineReader_readLine 0 = .ok (.aload_n 0, 1) := by decide +kernel
theorem d_LineReader_readLine_1 : decode b_LineReader_readLine 1 = .ok (.invokevirtual 53, 3) := by decide +kernel
theorem d_LineReader_readLine_4 : decode b_LineReader_readLine 4 = .ok (.aload_n 0, 1) := by decide +kernel
theorem d_LineReader_readLine_5 : decode b_LineReader_readLine 5 = .ok (.aload_n 0, 1) := by decide +kernel
theorem d_LineReader_readLine_6 : decode b_LineReader_readLine 6 = .ok (.getfield 30, 3) := by decide +kernel
theorem d_LineReader_readLine_9 : decode b_LineReader_readLine 9 = .ok (.getfield 56, 3) := by decide +kernel
theorem d_LineReader_readLine_12 : decode b_LineReader_readLine 12 = .ok (.iconst 0, 1) := by decide +kernel
theorem d_LineReader_readLine_13 : decode b_LineReader_readLine 13 = .ok (.iaload, 1) := by decide +kernel
theorem d_LineReader_readLine_14 : decode b_LineReader_readLine 14 = .ok (.putfield 57, 3) := by decide +kernel
theorem d_LineReader_readLine_17 : decode b_LineReader_readLine 17 = .ok (.aload_n 0, 1) := by decide +kernel
theorem d_LineReader_readLine_18 : decode b_LineReader_readLine 18 = .ok (.getfield 57, 3) := by decide +kernel
theorem d_LineReader_readLine_21 : decode b_LineReader_readLine 21 = .ok (.iconst 3, 1) := by decide +kernel
theorem d_LineReader_readLine_22 : decode b_LineReader_readLine 22 = .ok (.if_icmp .ne 24, 3) := by decide +kernel
theorem d_LineReader_readLine_25 : decode b_LineReader_readLine 25 = .ok (.aload_n 0, 1) := by decide +kernel
theorem d_LineReader_readLine_26 : decode b_LineReader_readLine 26 = .ok (.invokevirtual 60, 3) := by decide +kernel
theorem d_LineReader_readLine_29 : decode b_LineReader_readLine 29 = .ok (.ifCond .eq 15, 3) := by decide +kernel
theorem d_LineReader_readLine_32 : decode b_LineReader_readLine 32 = .ok (.aload_n 0, 1) := by decide +kernel
theorem d_LineReader_readLine_33 : decode b_LineReader_readLine 33 = .ok (.iconst 1, 1) := by decide +kernel
theorem d_LineReader_readLine_34 : decode b_LineReader_readLine 34 = .ok (.invokevirtual 64, 3) := by decide +kernel
theorem d_LineReader_readLine_37 : decode b_LineReader_readLine 37 = .ok (.ifCond .eq 7, 3) := by decide +kernel
theorem d_LineReader_readLine_40 : decode b_LineReader_readLine 40 = .ok (.iconst 1, 1) := by decide +kernel
theorem d_LineReader_readLine_41 : decode b_LineReader_readLine 41 = .ok (.goto 4, 3) := by decide +kernel
theorem d_LineReader_readLine_44 : decode b_LineReader_readLine 44 = .ok (.iconst 0, 1) := by decide +kernel
theorem d_LineReader_readLine_45 : decode b_LineReader_readLine 45 = .ok (.ireturn, 1) := by decide +kernel
theorem d_LineReader_readLine_46 : decode b_LineReader_readLine 46 = .ok (.aload_n 0, 1) := by decide +kernel
theorem d_LineReader_readLine_47 : decode b_LineReader_readLine 47 = .ok (.getfield 57, 3) := by decide +kernel
theorem d_LineReader_readLine_50 : decode b_LineReader_readLine 50 = .ok (.iconst 4, 1) := by decide +kernel
theorem d_LineReader_readLine_51 : decode b_LineReader_readLine 51 = .ok (.if_icmp .lt 12, 3) := by decide +kernel
theorem d_LineReader_readLine_54 : decode b_LineReader_readLine 54 = .ok (.aload_n 0, 1) := by decide +kernel
theorem d_LineReader_readLine_55 : decode b_LineReader_readLine 55 = .ok (.getfield 57, 3) := by decide +kernel
theorem d_LineReader_readLine_58 : decode b_LineReader_readLine 58 = .ok (.bipush 12, 2) := by decide +kernel
theorem d_LineReader_readLine_60 : decode b_LineReader_readLine 60 = .ok (.if_icmp .le 5, 3) := by decide +kernel
theorem d_LineReader_readLine_63 : decode b_LineReader_readLine 63 = .ok (.iconst 0, 1) := by decide +kernel
theorem d_LineReader_readLine_64 : decode b_LineReader_readLine 64 = .ok (.ireturn, 1) := by decide +kernel
theorem d_LineReader_readLine_65 : decode b_LineReader_readLine 65 = .ok (.getstatic 68, 3) := by decide +kernel
theorem d_LineReader_readLine_68 : decode b_LineReader_readLine 68 = .ok (.aload_n 0, 1) := by decide +kernel
theorem d_LineReader_readLine_69 : decode b_LineReader_readLine 69 = .ok (.getfield 57, 3) := by decide +kernel
theorem d_LineReader_readLine_72 : decode b_LineReader_readLine 72 = .ok (.iconst 4, 1) := by decide +kernel
theorem d_LineReader_readLine_73 : decode b_LineReader_readLine 73 = .ok (.isub, 1) := by decide +kernel
theorem d_LineReader_readLine_74 : decode b_LineReader_readLine 74 = .ok (.iaload, 1) := by decide +kernel
theorem d_LineReader_readLine_75 : decode b_LineReader_readLine 75 = .ok (.istore_n 1, 1) := by decide +kernel
theorem d_LineReader_readLine_76 : decode b_LineReader_readLine 76 = .ok (.iload_n 1, 1) := by decide +kernel
theorem d_LineReader_readLine_77 : decode b_LineReader_readLine 77 = .ok (.ifCond .ne 10, 3) := by decide +kernel
theorem d_LineReader_readLine_80 : decode b_LineReader_readLine 80 = .ok (.aload_n 0, 1) := by decide +kernel
theorem d_LineReader_readLine_81 : decode b_LineReader_readLine 81 = .ok (.invokevirtual 71, 3) := by decide +kernel
theorem d_LineReader_readLine_84 : decode b_LineReader_readLine 84 = .ok (.goto 8, 3) := by decide +kernel
theorem d_LineReader_readLine_87 : decode b_LineReader_readLine 87 = .ok (.aload_n 0, 1) := by decide +kernel
theorem d_LineReader_readLine_88 : decode b_LineReader_readLine 88 = .ok (.iload_n 1, 1) := by decide +kernel
theorem d_LineReader_readLine_89 : decode b_LineReader_readLine 89 = .ok (.invokevirtual 64, 3) := by decide +kernel
theorem d_LineReader_readLine_92 : decode b_LineReader_readLine 92 = .ok (.ireturn, 1) := by decide +kernel
def μ_LineReader_readLine : ax_M := (b_LineReader_readLine, 2, "DotConsole$LineReader", (some .boolean), 6, 133, 0, 0)
theorem Y_LineReader_readLine : ax_YV μ_LineReader_readLine y_LineReader_readLine 0 := ⟨⟨ax_mem (by decide +kernel) rfl, ax_mem (by decide +kernel) rfl, by decide, by decide, by decide +kernel⟩, ax_mem (by decide +kernel) rfl, ax_mem (by decide +kernel) rfl⟩
theorem km_LineReader_53 : Cond.methodLink "DotConsole$LineReader" 53 ⟨"DotConsole$LineReader", "clear", "()V"⟩ ∈ ax_T := ax_mem (by decide +kernel) rfl
theorem kf_LineReader_57 : Cond.fieldLink "DotConsole$LineReader" 57 "DotConsole$LineReader" "statement" "I" ∈ ax_T := ax_mem (by decide +kernel) rfl
theorem km_LineReader_64 : Cond.methodLink "DotConsole$LineReader" 64 ⟨"DotConsole$LineReader", "readExpressions", "(I)Z"⟩ ∈ ax_T := ax_mem (by decide +kernel) rfl
theorem km_LineReader_71 : Cond.methodLink "DotConsole$LineReader" 71 ⟨"DotConsole$LineReader", "readNothing", "()Z"⟩ ∈ ax_T := ax_mem (by decide +kernel) rfl
theorem km_LineReader_60 : Cond.methodLink "DotConsole$LineReader" 60 ⟨"DotConsole$LineReader", "readTarget", "()Z"⟩ ∈ ax_T := ax_mem (by decide +kernel) rfl
def J_LineReader_readLine (N : Nat) (σ : St) : Option (Int32 × St) :=
  ax_bindV (J_LineReader_clear N σ) (fun σ1 =>
  (if (inB 0 49) = true then ax_let (sF σ1 8 (σ1.2 2 (0 : Int32).toNatClampNeg)) (fun σ2 =>
  (if (σ2.1 8) = 3 then
  ax_bind (J_LineReader_readTarget N σ2) (fun r3 σ5 =>
  (if r3 = 0 then
  some (0, σ5)
  else ax_bind (J_LineReader_readExpressions N 1 σ5) (fun r4 σ6 =>
  (if r4 = 0 then
  some (0, σ6)
  else some (1, σ6)))))
  else (if (σ2.1 8) < 4 then
  some (0, σ2)
  else (if (σ2.1 8) ≤ 12 then
  (if (inB ((σ2.1 8) - 4) 17) = true then ax_let ((tPARTS ((σ2.1 8) - 4).toNatClampNeg) : Int32) (fun v1 =>
  (if v1 = 0 then
  ax_bind (J_LineReader_readNothing N σ2) (fun r2 σ4 =>
  some (r2, σ4))
  else ax_bind (J_LineReader_readExpressions N v1 σ2) (fun r1 σ3 =>
  some (r1, σ3)))) else none)
  else some (0, σ2))))) else none))
set_option maxHeartbeats 1000000 in
theorem c_LineReader_readLine {N : Nat} {g : ax_G} {σ : St} {r9 : Int32} {s9 : St} (hJ : J_LineReader_readLine N σ = some (r9, s9)) : ax_CI μ_LineReader_readLine g y_LineReader_readLine (wC g) [.ref (g.2.1 9)] σ (ax_eqZ r9 s9) := by
  refine ax_CI.of (plainFor_of_name rfl) rfl (Nat.le_of_ble_eq_true rfl) (fun x A _ => ?_)
  show AW x μ_LineReader_readLine g A (wC g) (0, 0) (ax_QI x μ_LineReader_readLine g A (wC g) (ax_eqZ r9 s9)) 0 [(0, .ref (g.2.1 9))] [] σ
  rw [J_LineReader_readLine] at hJ
  refine aw_aload_n (n := 1) d_LineReader_readLine_0 rfl rfl 0 rfl ?_
  obtain ⟨σ1, hc1, hJ⟩ := ax_bindVE hJ
  refine aw_callVv (n := 4) (c_LineReader_clear hc1) 9 rfl rfl Y_LineReader_clear km_LineReader_53 (by decide) (by decide) rfl rfl (Nat.le_of_ble_eq_true rfl) d_LineReader_readLine_1 rfl (fun s9 hp => ?_)
  subst hp
  refine aw_aload_n (n := 5) d_LineReader_readLine_4 rfl rfl 0 rfl ?_
  refine aw_aload_n (n := 6) d_LineReader_readLine_5 rfl rfl 0 rfl ?_
  refine gf_LineReader_tokens (n := 9) d_LineReader_readLine_6 rfl kf_LineReader_30 ?_
  refine gf_Tokens_kinds (n := 12) d_LineReader_readLine_9 rfl kf_LineReader_56 ?_
  refine aw_iconst (n := 13) (v := 0) d_LineReader_readLine_12 rfl (by decide) ?_
  obtain ⟨h1, hJ⟩ := ax_need hJ
  refine al_4 (n := 14) d_LineReader_readLine_13 rfl h1 ?_
  refine pf_LineReader_statement (n := 17) d_LineReader_readLine_14 rfl kf_LineReader_57 ?_
  obtain ⟨σ2, eσ2, hJ⟩ := ax_letE hJ
  refine aw_let eσ2 ?_
  refine aw_aload_n (n := 18) d_LineReader_readLine_17 rfl rfl 0 rfl ?_
  refine gf_LineReader_statement (n := 21) d_LineReader_readLine_18 rfl kf_LineReader_57 ?_
  refine aw_iconst (n := 22) (v := 3) d_LineReader_readLine_21 rfl (by decide) ?_
  refine aw_icmp_ne (n := 25) (t := 46) d_LineReader_readLine_22 rfl (by decide) (fun c1 => ?_) (fun c1 => ?_)
  · rw [if_neg c1] at hJ
    refine aw_aload_n (n := 47) d_LineReader_readLine_46 rfl rfl 0 rfl ?_
    refine gf_LineReader_statement (n := 50) d_LineReader_readLine_47 rfl kf_LineReader_57 ?_
    refine aw_iconst (n := 51) (v := 4) d_LineReader_readLine_50 rfl (by decide) ?_
    refine aw_icmp_lt (n := 54) (t := 63) d_LineReader_readLine_51 rfl (by decide) (fun c2 => ?_) (fun c2 => ?_)
    · rw [if_pos c2] at hJ
      refine aw_iconst (n := 64) (v := 0) d_LineReader_readLine_63 rfl (by decide) ?_
      exact aw_zret d_LineReader_readLine_64 rfl rfl (ax_retZ hJ rfl)
    · rw [if_neg c2] at hJ
      refine aw_aload_n (n := 55) d_LineReader_readLine_54 rfl rfl 0 rfl ?_
      refine gf_LineReader_statement (n := 58) d_LineReader_readLine_55 rfl kf_LineReader_57 ?_
      refine aw_bipush (n := 60) (v := 12) d_LineReader_readLine_58 rfl (by decide) ?_
      refine aw_icmp_le (n := 63) (t := 65) d_LineReader_readLine_60 rfl (by decide) (fun c3 => ?_) (fun c3 => ?_)
      · rw [if_pos c3] at hJ
        refine gs_PARTSN (n := 68) d_LineReader_readLine_65 rfl kf_LineReader_68 ?_
        refine aw_aload_n (n := 69) d_LineReader_readLine_68 rfl rfl 0 rfl ?_
        refine gf_LineReader_statement (n := 72) d_LineReader_readLine_69 rfl kf_LineReader_57 ?_
        refine aw_iconst (n := 73) (v := 4) d_LineReader_readLine_72 rfl (by decide) ?_
        refine aw_isub (n := 74) d_LineReader_readLine_73 rfl ?_
        obtain ⟨h2, hJ⟩ := ax_need hJ
        refine al_PARTS (n := 75) d_LineReader_readLine_74 rfl h2 ?_
        obtain ⟨v1, ev1, hJ⟩ := ax_letE hJ
        refine aw_top ev1 ?_
        refine aw_istore_n (n := 76) d_LineReader_readLine_75 rfl rfl (by decide) rfl ?_
        refine aw_iload_n (n := 77) d_LineReader_readLine_76 rfl rfl 0 rfl ?_
        refine aw_if_ne (n := 80) (t := 87) d_LineReader_readLine_77 rfl (by decide) (fun c4 => ?_) (fun c4 => ?_)
        · rw [if_neg c4] at hJ
          refine aw_aload_n (n := 88) d_LineReader_readLine_87 rfl rfl 1 rfl ?_
          refine aw_iload_n (n := 89) d_LineReader_readLine_88 rfl rfl 0 rfl ?_
          obtain ⟨r1, σ3, hc2, hJ⟩ := ax_bindE hJ
          refine aw_callVi (n := 92) (c_LineReader_readExpressions hc2) 9 rfl rfl Y_LineReader_readExpressions km_LineReader_64 (by decide) (by decide) rfl rfl (Nat.le_of_ble_eq_true rfl) d_LineReader_readLine_89 rfl (fun r9 s9 hp => ?_)
          obtain ⟨rfl, rfl, hb1⟩ := hp
          exact aw_zret d_LineReader_readLine_92 rfl hb1 (ax_retZ hJ hb1)
        · rw [if_pos c4] at hJ
          refine aw_aload_n (n := 81) d_LineReader_readLine_80 rfl rfl 1 rfl ?_
          obtain ⟨r2, σ4, hc3, hJ⟩ := ax_bindE hJ
          refine aw_callVi (n := 84) (c_LineReader_readNothing hc3) 9 rfl rfl Y_LineReader_readNothing km_LineReader_71 (by decide) (by decide) rfl rfl (Nat.le_of_ble_eq_true rfl) d_LineReader_readLine_81 rfl (fun r9 s9 hp => ?_)
          obtain ⟨rfl, rfl, hb2⟩ := hp
          refine aw_goto (t := 92) d_LineReader_readLine_84 (by decide) ?_
          exact aw_zret d_LineReader_readLine_92 rfl hb2 (ax_retZ hJ hb2)
      · rw [if_neg c3] at hJ
        refine aw_iconst (n := 64) (v := 0) d_LineReader_readLine_63 rfl (by decide) ?_
        exact aw_zret d_LineReader_readLine_64 rfl rfl (ax_retZ hJ rfl)
  · rw [if_pos c1] at hJ
    refine aw_aload_n (n := 26) d_LineReader_readLine_25 rfl rfl 0 rfl ?_
    obtain ⟨r3, σ5, hc4, hJ⟩ := ax_bindE hJ
    refine aw_callVi (n := 29) (c_LineReader_readTarget hc4) 9 rfl rfl Y_LineReader_readTarget km_LineReader_60 (by decide) (by decide) rfl rfl (Nat.le_of_ble_eq_true rfl) d_LineReader_readLine_26 rfl (fun r9 s9 hp => ?_)
    obtain ⟨rfl, rfl, hb3⟩ := hp
    refine aw_if_eq (n := 32) (t := 44) d_LineReader_readLine_29 rfl (by decide) (fun c5 => ?_) (fun c5 => ?_)
    · rw [if_pos c5] at hJ
      refine aw_iconst (n := 45) (v := 0) d_LineReader_readLine_44 rfl (by decide) ?_
      exact aw_zret d_LineReader_readLine_45 rfl rfl (ax_retZ hJ rfl)
    · rw [if_neg c5] at hJ
      refine aw_aload_n (n := 33) d_LineReader_readLine_32 rfl rfl 0 rfl ?_
      refine aw_iconst (n := 34) (v := 1) d_LineReader_readLine_33 rfl (by decide) ?_
      obtain ⟨r4, σ6, hc5, hJ⟩ := ax_bindE hJ
      refine aw_callVi (n := 37) (c_LineReader_readExpressions hc5) 9 rfl rfl Y_LineReader_readExpressions km_LineReader_64 (by decide) (by decide) rfl rfl (Nat.le_of_ble_eq_true rfl) d_LineReader_readLine_34 rfl (fun r9 s9 hp => ?_)
      obtain ⟨rfl, rfl, hb4⟩ := hp
      refine aw_if_eq (n := 40) (t := 44) d_LineReader_readLine_37 rfl (by decide) (fun c6 => ?_) (fun c6 => ?_)
      · rw [if_pos c6] at hJ
        refine aw_iconst (n := 45) (v := 0) d_LineReader_readLine_44 rfl (by decide) ?_
        exact aw_zret d_LineReader_readLine_45 rfl rfl (ax_retZ hJ rfl)
      · rw [if_neg c6] at hJ
        refine aw_iconst (n := 41) (v := 1) d_LineReader_readLine_40 rfl (by decide) ?_
        refine aw_goto (t := 45) d_LineReader_readLine_41 (by decide) ?_
        exact aw_zret d_LineReader_readLine_45 rfl rfl (ax_retZ hJ rfl)
abbrev b_LineReader_isTooLarge : ByteArray := prog_2_method_2_code
def y_LineReader_isTooLarge : MethodName := ⟨"DotConsole$LineReader", "isTooLarge", "()Z"⟩
theorem d_LineReader_isTooLarge_0 : decode b_LineReader_isTooLarge 0 = .ok (.aload_n 0, 1) := by decide +kernel
theorem d_LineReader_isTooLarge_1 : decode b_LineReader_isTooLarge 1 = .ok (.getfield 38, 3) := by decide +kernel
theorem d_LineReader_isTooLarge_4 : decode b_LineReader_isTooLarge 4 = .ok (.bipush 16, 2) := by decide +kernel
theorem d_LineReader_isTooLarge_6 : decode b_LineReader_isTooLarge 6 = .ok (.if_icmp .gt 11, 3) := by decide +kernel
theorem d_LineReader_isTooLarge_9 : decode b_LineReader_isTooLarge 9 = .ok (.aload_n 0, 1) := by decide +kernel
theorem d_LineReader_isTooLarge_10 : decode b_LineReader_isTooLarge 10 = .ok (.getfield 42, 3) := by decide +kernel
theorem d_LineReader_isTooLarge_13 : decode b_LineReader_isTooLarge 13 = .ok (.iconst 5, 1) := by decide +kernel
theorem d_LineReader_isTooLarge_14 : decode b_LineReader_isTooLarge 14 = .ok (.if_icmp .le 7, 3) := by decide +kernel
theorem d_LineReader_isTooLarge_17 : decode b_LineReader_isTooLarge 17 = .ok (.iconst 1, 1) := by decide +kernel
theorem d_LineReader_isTooLarge_18 : decode b_LineReader_isTooLarge 18 = .ok (.goto 4, 3) := by decide +kernel
theorem d_LineReader_isTooLarge_21 : decode b_LineReader_isTooLarge 21 = .ok (.iconst 0, 1) := by decide +kernel
theorem d_LineReader_isTooLarge_22 : decode b_LineReader_isTooLarge 22 = .ok (.ireturn, 1) := by decide +kernel
def μ_LineReader_isTooLarge : ax_M := (b_LineReader_isTooLarge, 1, "DotConsole$LineReader", (some .boolean), 0, 0, 0, 0)
theorem Y_LineReader_isTooLarge : ax_YV μ_LineReader_isTooLarge y_LineReader_isTooLarge 0 := ⟨⟨ax_mem (by decide +kernel) rfl, ax_mem (by decide +kernel) rfl, by decide, by decide, by decide +kernel⟩, ax_mem (by decide +kernel) rfl, ax_mem (by decide +kernel) rfl⟩
def J_LineReader_isTooLarge (N : Nat) (σ : St) : Option (Int32 × St) :=
  (if 16 < (σ.1 10) then
  some (1, σ)
  else (if (σ.1 12) ≤ 5 then
  some (0, σ)
  else some (1, σ)))
set_option maxHeartbeats 1000000 in
theorem c_LineReader_isTooLarge {N : Nat} {g : ax_G} {σ : St} {r9 : Int32} {s9 : St} (hJ : J_LineReader_isTooLarge N σ = some (r9, s9)) : ax_CI μ_LineReader_isTooLarge g y_LineReader_isTooLarge (wC g) [.ref (g.2.1 9)] σ (ax_eqZ r9 s9) := by
  refine ax_CI.of (plainFor_of_name rfl) rfl (Nat.le_of_ble_eq_true rfl) (fun x A _ => ?_)
  show AW x μ_LineReader_isTooLarge g A (wC g) (0, 0) (ax_QI x μ_LineReader_isTooLarge g A (wC g) (ax_eqZ r9 s9)) 0 [(0, .ref (g.2.1 9))] [] σ
  rw [J_LineReader_isTooLarge] at hJ
  refine aw_aload_n (n := 1) d_LineReader_isTooLarge_0 rfl rfl 0 rfl ?_
  refine gf_LineReader_nodeCount (n := 4) d_LineReader_isTooLarge_1 rfl kf_LineReader_38 ?_
  refine aw_bipush (n := 6) (v := 16) d_LineReader_isTooLarge_4 rfl (by decide) ?_
  refine aw_icmp_gt (n := 9) (t := 17) d_LineReader_isTooLarge_6 rfl (by decide) (fun c1 => ?_) (fun c1 => ?_)
  · rw [if_pos c1] at hJ
    refine aw_iconst (n := 18) (v := 1) d_LineReader_isTooLarge_17 rfl (by decide) ?_
    refine aw_goto (t := 22) d_LineReader_isTooLarge_18 (by decide) ?_
    exact aw_zret d_LineReader_isTooLarge_22 rfl rfl (ax_retZ hJ rfl)
  · rw [if_neg c1] at hJ
    refine aw_aload_n (n := 10) d_LineReader_isTooLarge_9 rfl rfl 0 rfl ?_
    refine gf_LineReader_mostLevels (n := 13) d_LineReader_isTooLarge_10 rfl kf_LineReader_42 ?_
    refine aw_iconst (n := 14) (v := 5) d_LineReader_isTooLarge_13 rfl (by decide) ?_
    refine aw_icmp_le (n := 17) (t := 21) d_LineReader_isTooLarge_14 rfl (by decide) (fun c2 => ?_) (fun c2 => ?_)
    · rw [if_pos c2] at hJ
      refine aw_iconst (n := 22) (v := 0) d_LineReader_isTooLarge_21 rfl (by decide) ?_
      exact aw_zret d_LineReader_isTooLarge_22 rfl rfl (ax_retZ hJ rfl)
    · rw [if_neg c2] at hJ
      refine aw_iconst (n := 18) (v := 1) d_LineReader_isTooLarge_17 rfl (by decide) ?_
      refine aw_goto (t := 22) d_LineReader_isTooLarge_18 (by decide) ?_
      exact aw_zret d_LineReader_isTooLarge_22 rfl rfl (ax_retZ hJ rfl)
abbrev b_Con_answerToStatement : ByteArray := prog_1_method_4_code
def y_Con_answerToStatement : MethodName := ⟨"DotConsole", "answerToStatement", "()I"⟩
theorem d_Con_answerToStatement_0 : decode b_Con_answerToStatement 0 = .ok (.aload_n 0, 1) := by decide +kernel
theorem d_Con_answerToStatement_1 : decode b_Con_answerToStatement 1 = .ok (.getfield 28, 3) := by decide +kernel
theorem d_Con_answerToStatement_4 : decode b_Con_answerToStatement 4 = .ok (.invokevirtual 86, 3) := by decide +kernel
theorem d_Con_answerToStatement_7 : decode b_Con_answerToStatement 7 = .ok (.ifCond .ne 25, 3) := by decide +kernel
theorem d_Con_answerToStatement_10 : decode b_Con_answerToStatement 10 = .ok (.aload_n 0, 1) := by decide +kernel
theorem d_Con_answerToStatement_11 : decode b_Con_answerToStatement 11 = .ok (.getfield 35, 3) := by decide +kernel
theorem d_Con_answerToStatement_14 : decode b_Con_answerToStatement 14 = .ok (.getfield 89, 3) := by decide +kernel
theorem d_Con_answerToStatement_17 : decode b_Con_answerToStatement 17 = .ok (.bipush 28, 2) := by decide +kernel
theorem d_Con_answerToStatement_19 : decode b_Con_answerToStatement 19 = .ok (.if_icmp .eq 13, 3) := by decide +kernel
theorem d_Con_answerToStatement_22 : decode b_Con_answerToStatement 22 = .ok (.aload_n 0, 1) := by decide +kernel
theorem d_Con_answerToStatement_23 : decode b_Con_answerToStatement 23 = .ok (.getfield 19, 3) := by decide +kernel
theorem d_Con_answerToStatement_26 : decode b_Con_answerToStatement 26 = .ok (.getfield 92, 3) := by decide +kernel
theorem d_Con_answerToStatement_29 : decode b_Con_answerToStatement 29 = .ok (.ifCond .eq 6, 3) := by decide +kernel
theorem d_Con_answerToStatement_32 : decode b_Con_answerToStatement 32 = .ok (.bipush (-2), 2) := by decide +kernel
theorem d_Con_answerToStatement_34 : decode b_Con_answerToStatement 34 = .ok (.ireturn, 1) := by decide +kernel
theorem d_Con_answerToStatement_35 : decode b_Con_answerToStatement 35 = .ok (.aload_n 0, 1) := by decide +kernel
theorem d_Con_answerToStatement_36 : decode b_Con_answerToStatement 36 = .ok (.getfield 35, 3) := by decide +kernel
theorem d_Con_answerToStatement_39 : decode b_Con_answerToStatement 39 = .ok (.getfield 89, 3) := by decide +kernel
theorem d_Con_answerToStatement_42 : decode b_Con_answerToStatement 42 = .ok (.iconst 1, 1) := by decide +kernel
theorem d_Con_answerToStatement_43 : decode b_Con_answerToStatement 43 = .ok (.iadd, 1) := by decide +kernel
theorem d_Con_answerToStatement_44 : decode b_Con_answerToStatement 44 = .ok (.ireturn, 1) := by decide +kernel
def μ_Con_answerToStatement : ax_M := (b_Con_answerToStatement, 1, "DotConsole", (some .int), 1, 20, 0, 0)
theorem Y_Con_answerToStatement : ax_YV μ_Con_answerToStatement y_Con_answerToStatement 0 := ⟨⟨ax_mem (by decide +kernel) rfl, ax_mem (by decide +kernel) rfl, by decide, by decide, by decide +kernel⟩, ax_mem (by decide +kernel) rfl, ax_mem (by decide +kernel) rfl⟩
theorem kf_Con_28 : Cond.fieldLink "DotConsole" 28 "DotConsole" "reader" "LDotConsole$LineReader;" ∈ ax_T := ax_mem (by decide +kernel) rfl
theorem km_Con_86 : Cond.methodLink "DotConsole" 86 ⟨"DotConsole$LineReader", "isTooLarge", "()Z"⟩ ∈ ax_T := ax_mem (by decide +kernel) rfl
theorem kf_Con_35 : Cond.fieldLink "DotConsole" 35 "DotConsole" "program" "LDotConsole$Program;" ∈ ax_T := ax_mem (by decide +kernel) rfl
theorem kf_Con_89 : Cond.fieldLink "DotConsole" 89 "DotConsole$Program" "lines" "I" ∈ ax_T := ax_mem (by decide +kernel) rfl
theorem kf_Con_19 : Cond.fieldLink "DotConsole" 19 "DotConsole" "names" "LDotConsole$Names;" ∈ ax_T := ax_mem (by decide +kernel) rfl
theorem kf_Con_92 : Cond.fieldLink "DotConsole" 92 "DotConsole$Names" "tooMany" "Z" ∈ ax_T := ax_mem (by decide +kernel) rfl
def J_Con_answerToStatement (N : Nat) (σ : St) : Option (Int32 × St) :=
  ax_bind (J_LineReader_isTooLarge N σ) (fun r1 σ1 =>
  (if r1 = 0 then
  (if (σ1.1 16) = 28 then
  some ((-2), σ1)
  else (if (σ1.1 6) = 0 then
  some (((σ1.1 16) + 1), σ1)
  else some ((-2), σ1)))
  else some ((-2), σ1)))
set_option maxHeartbeats 1000000 in
theorem c_Con_answerToStatement {N : Nat} {g : ax_G} {σ : St} {r9 : Int32} {s9 : St} (hJ : J_Con_answerToStatement N σ = some (r9, s9)) : ax_CI μ_Con_answerToStatement g y_Con_answerToStatement (wC g) [.ref (g.2.1 0)] σ (ax_eqI r9 s9) := by
  refine ax_CI.of (plainFor_of_name rfl) rfl (Nat.le_of_ble_eq_true rfl) (fun x A _ => ?_)
  show AW x μ_Con_answerToStatement g A (wC g) (0, 0) (ax_QI x μ_Con_answerToStatement g A (wC g) (ax_eqI r9 s9)) 0 [(0, .ref (g.2.1 0))] [] σ
  rw [J_Con_answerToStatement] at hJ
  refine aw_aload_n (n := 1) d_Con_answerToStatement_0 rfl rfl 0 rfl ?_
  refine gf_Con_reader (n := 4) d_Con_answerToStatement_1 rfl kf_Con_28 ?_
  obtain ⟨r1, σ1, hc1, hJ⟩ := ax_bindE hJ
  refine aw_callVi (n := 7) (c_LineReader_isTooLarge hc1) 9 rfl rfl Y_LineReader_isTooLarge km_Con_86 (by decide) (by decide) rfl rfl (Nat.le_of_ble_eq_true rfl) d_Con_answerToStatement_4 rfl (fun r9 s9 hp => ?_)
  obtain ⟨rfl, rfl, hb1⟩ := hp
  refine aw_if_ne (n := 10) (t := 32) d_Con_answerToStatement_7 rfl (by decide) (fun c1 => ?_) (fun c1 => ?_)
  · rw [if_neg c1] at hJ
    refine aw_bipush (n := 34) (v := -2) d_Con_answerToStatement_32 rfl (by decide) ?_
    exact aw_iret d_Con_answerToStatement_34 rfl (ax_ret hJ)
  · rw [if_pos c1] at hJ
    refine aw_aload_n (n := 11) d_Con_answerToStatement_10 rfl rfl 0 rfl ?_
    refine gf_Con_program (n := 14) d_Con_answerToStatement_11 rfl kf_Con_35 ?_
    refine gf_Program_lines (n := 17) d_Con_answerToStatement_14 rfl kf_Con_89 ?_
    refine aw_bipush (n := 19) (v := 28) d_Con_answerToStatement_17 rfl (by decide) ?_
    refine aw_icmp_eq (n := 22) (t := 32) d_Con_answerToStatement_19 rfl (by decide) (fun c2 => ?_) (fun c2 => ?_)
    · rw [if_pos c2] at hJ
      refine aw_bipush (n := 34) (v := -2) d_Con_answerToStatement_32 rfl (by decide) ?_
      exact aw_iret d_Con_answerToStatement_34 rfl (ax_ret hJ)
    · rw [if_neg c2] at hJ
      refine aw_aload_n (n := 23) d_Con_answerToStatement_22 rfl rfl 0 rfl ?_
      refine gf_Con_names (n := 26) d_Con_answerToStatement_23 rfl kf_Con_19 ?_
      refine gf_Names_tooMany (n := 29) d_Con_answerToStatement_26 rfl kf_Con_92 ?_
      refine aw_if_eq (n := 32) (t := 35) d_Con_answerToStatement_29 rfl (by decide) (fun c3 => ?_) (fun c3 => ?_)
      · rw [if_pos c3] at hJ
        refine aw_aload_n (n := 36) d_Con_answerToStatement_35 rfl rfl 0 rfl ?_
        refine gf_Con_program (n := 39) d_Con_answerToStatement_36 rfl kf_Con_35 ?_
        refine gf_Program_lines (n := 42) d_Con_answerToStatement_39 rfl kf_Con_89 ?_
        refine aw_iconst (n := 43) (v := 1) d_Con_answerToStatement_42 rfl (by decide) ?_
        refine aw_iadd (n := 44) d_Con_answerToStatement_43 rfl ?_
        exact aw_iret d_Con_answerToStatement_44 rfl (ax_ret hJ)
      · rw [if_neg c3] at hJ
        refine aw_bipush (n := 34) (v := -2) d_Con_answerToStatement_32 rfl (by decide) ?_
        exact aw_iret d_Con_answerToStatement_34 rfl (ax_ret hJ)
abbrev b_LineReader_wrongPlace : ByteArray := prog_2_method_3_code
def y_LineReader_wrongPlace : MethodName := ⟨"DotConsole$LineReader", "wrongPlace", "()I"⟩
theorem d_LineReader_wrongPlace_0 : decode b_LineReader_wrongPlace 0 = .ok (.aload_n 0, 1) := by decide +kernel
theorem d_LineReader_wrongPlace_1 : decode b_LineReader_wrongPlace 1 = .ok (.getfield 30, 3) := by decide +kernel
theorem d_LineReader_wrongPlace_4 : decode b_LineReader_wrongPlace 4 = .ok (.getfield 45, 3) := by decide +kernel
theorem d_LineReader_wrongPlace_7 : decode b_LineReader_wrongPlace 7 = .ok (.aload_n 0, 1) := by decide +kernel
theorem d_LineReader_wrongPlace_8 : decode b_LineReader_wrongPlace 8 = .ok (.getfield 50, 3) := by decide +kernel
theorem d_LineReader_wrongPlace_11 : decode b_LineReader_wrongPlace 11 = .ok (.iaload, 1) := by decide +kernel
theorem d_LineReader_wrongPlace_12 : decode b_LineReader_wrongPlace 12 = .ok (.ireturn, 1) := by decide +kernel
def μ_LineReader_wrongPlace : ax_M := (b_LineReader_wrongPlace, 1, "DotConsole$LineReader", (some .int), 0, 0, 0, 0)
theorem Y_LineReader_wrongPlace : ax_YV μ_LineReader_wrongPlace y_LineReader_wrongPlace 0 := ⟨⟨ax_mem (by decide +kernel) rfl, ax_mem (by decide +kernel) rfl, by decide, by decide, by decide +kernel⟩, ax_mem (by decide +kernel) rfl, ax_mem (by decide +kernel) rfl⟩
theorem kf_LineReader_45 : Cond.fieldLink "DotConsole$LineReader" 45 "DotConsole$Tokens" "starts" "[I" ∈ ax_T := ax_mem (by decide +kernel) rfl
def J_LineReader_wrongPlace (N : Nat) (σ : St) : Option (Int32 × St) :=
  (if (inB (σ.1 7) 49) = true then some ((σ.2 3 (σ.1 7).toNatClampNeg), σ) else none)
set_option maxHeartbeats 1000000 in
theorem c_LineReader_wrongPlace {N : Nat} {g : ax_G} {σ : St} {r9 : Int32} {s9 : St} (hJ : J_LineReader_wrongPlace N σ = some (r9, s9)) : ax_CI μ_LineReader_wrongPlace g y_LineReader_wrongPlace (wC g) [.ref (g.2.1 9)] σ (ax_eqI r9 s9) := by
  refine ax_CI.of (plainFor_of_name rfl) rfl (Nat.le_of_ble_eq_true rfl) (fun x A _ => ?_)
  show AW x μ_LineReader_wrongPlace g A (wC g) (0, 0) (ax_QI x μ_LineReader_wrongPlace g A (wC g) (ax_eqI r9 s9)) 0 [(0, .ref (g.2.1 9))] [] σ
  rw [J_LineReader_wrongPlace] at hJ
  refine aw_aload_n (n := 1) d_LineReader_wrongPlace_0 rfl rfl 0 rfl ?_
  refine gf_LineReader_tokens (n := 4) d_LineReader_wrongPlace_1 rfl kf_LineReader_30 ?_
  refine gf_Tokens_starts (n := 7) d_LineReader_wrongPlace_4 rfl kf_LineReader_45 ?_
  refine aw_aload_n (n := 8) d_LineReader_wrongPlace_7 rfl rfl 0 rfl ?_
  refine gf_LineReader_at (n := 11) d_LineReader_wrongPlace_8 rfl kf_LineReader_50 ?_
  obtain ⟨h1, hJ⟩ := ax_need hJ
  refine al_5 (n := 12) d_LineReader_wrongPlace_11 rfl h1 ?_
  exact aw_iret d_LineReader_wrongPlace_12 rfl (ax_ret hJ)
abbrev b_Tokens_empty : ByteArray := prog_8_method_3_code
def y_Tokens_empty : MethodName := ⟨"DotConsole$Tokens", "empty", "()V"⟩
theorem d_Tokens_empty_0 : decode b_Tokens_empty 0 = .ok (.aload_n 0, 1) := by decide +kernel
theorem d_Tokens_empty_1 : decode b_Tokens_empty 1 = .ok (.iconst 0, 1) := by decide +kernel
theorem d_Tokens_empty_2 : decode b_Tokens_empty 2 = .ok (.putfield 40, 3) := by decide +kernel
theorem d_Tokens_empty_5 : decode b_Tokens_empty 5 = .ok (.return_, 1) := by decide +kernel
def μ_Tokens_empty : ax_M := (b_Tokens_empty, 1, "DotConsole$Tokens", none, 0, 0, 0, 0)
theorem Y_Tokens_empty : ax_YV μ_Tokens_empty y_Tokens_empty 0 := ⟨⟨ax_mem (by decide +kernel) rfl, ax_mem (by decide +kernel) rfl, by decide, by decide, by decide +kernel⟩, ax_mem (by decide +kernel) rfl, ax_mem (by decide +kernel) rfl⟩
def J_Tokens_empty (N : Nat) (σ : St) : Option St :=
  ax_let (sF σ 1 0) (fun σ1 =>
  some σ1)
set_option maxHeartbeats 1000000 in
theorem c_Tokens_empty {N : Nat} {g : ax_G} {σ : St} {s9 : St} (hJ : J_Tokens_empty N σ = some s9) : ax_CV μ_Tokens_empty g y_Tokens_empty (wC g) [.ref (g.2.1 1)] σ (ax_eqV s9) := by
  refine ax_CV.of (plainFor_of_name rfl) rfl (Nat.le_of_ble_eq_true rfl) (fun x A _ => ?_)
  show AW x μ_Tokens_empty g A (wC g) (0, 0) (ax_QV x μ_Tokens_empty g A (wC g) (ax_eqV s9)) 0 [(0, .ref (g.2.1 1))] [] σ
  rw [J_Tokens_empty] at hJ
  refine aw_aload_n (n := 1) d_Tokens_empty_0 rfl rfl 0 rfl ?_
  refine aw_iconst (n := 2) (v := 0) d_Tokens_empty_1 rfl (by decide) ?_
  refine pf_Tokens_length (n := 5) d_Tokens_empty_2 rfl kf_Tokens_40 ?_
  obtain ⟨σ1, eσ1, hJ⟩ := ax_letE hJ
  refine aw_let eσ1 ?_
  exact aw_vret d_Tokens_empty_5 rfl (ax_retV hJ)
abbrev b_Names_keepSeen : ByteArray := prog_4_method_3_code
def y_Names_keepSeen : MethodName := ⟨"DotConsole$Names", "keepSeen", "()V"⟩
theorem d_Names_keepSeen_0 : decode b_Names_keepSeen 0 = .ok (.aload_n 0, 1) := by decide +kernel
theorem d_Names_keepSeen_1 : decode b_Names_keepSeen 1 = .ok (.aload_n 0, 1) := by decide +kernel
theorem d_Names_keepSeen_2 : decode b_Names_keepSeen 2 = .ok (.getfield 19, 3) := by decide +kernel
theorem d_Names_keepSeen_5 : decode b_Names_keepSeen 5 = .ok (.putfield 15, 3) := by decide +kernel
theorem d_Names_keepSeen_8 : decode b_Names_keepSeen 8 = .ok (.return_, 1) := by decide +kernel
def μ_Names_keepSeen : ax_M := (b_Names_keepSeen, 1, "DotConsole$Names", none, 0, 0, 0, 0)
theorem Y_Names_keepSeen : ax_YV μ_Names_keepSeen y_Names_keepSeen 0 := ⟨⟨ax_mem (by decide +kernel) rfl, ax_mem (by decide +kernel) rfl, by decide, by decide, by decide +kernel⟩, ax_mem (by decide +kernel) rfl, ax_mem (by decide +kernel) rfl⟩
def J_Names_keepSeen (N : Nat) (σ : St) : Option St :=
  ax_let (sF σ 4 (σ.1 5)) (fun σ1 =>
  some σ1)
set_option maxHeartbeats 1000000 in
theorem c_Names_keepSeen {N : Nat} {g : ax_G} {σ : St} {s9 : St} (hJ : J_Names_keepSeen N σ = some s9) : ax_CV μ_Names_keepSeen g y_Names_keepSeen (wC g) [.ref (g.2.1 7)] σ (ax_eqV s9) := by
  refine ax_CV.of (plainFor_of_name rfl) rfl (Nat.le_of_ble_eq_true rfl) (fun x A _ => ?_)
  show AW x μ_Names_keepSeen g A (wC g) (0, 0) (ax_QV x μ_Names_keepSeen g A (wC g) (ax_eqV s9)) 0 [(0, .ref (g.2.1 7))] [] σ
  rw [J_Names_keepSeen] at hJ
  refine aw_aload_n (n := 1) d_Names_keepSeen_0 rfl rfl 0 rfl ?_
  refine aw_aload_n (n := 2) d_Names_keepSeen_1 rfl rfl 0 rfl ?_
  refine gf_Names_seen (n := 5) d_Names_keepSeen_2 rfl kf_Names_19 ?_
  refine pf_Names_kept (n := 8) d_Names_keepSeen_5 rfl kf_Names_15 ?_
  obtain ⟨σ1, eσ1, hJ⟩ := ax_letE hJ
  refine aw_let eσ1 ?_
  exact aw_vret d_Names_keepSeen_8 rfl (ax_retV hJ)
abbrev b_Program_append : ByteArray := prog_6_method_2_code
def y_Program_append : MethodName := ⟨"DotConsole$Program", "append", "(LDotConsole$LineReader;)V"⟩
theorem d_Program_append_0 : decode b_Program_append 0 = .ok (.aload_n 0, 1) := by decide +kernel
theorem d_Program_append_1 : decode b_Program_append 1 = .ok (.getfield 9, 3) := by decide +kernel
theorem d_Program_append_4 : decode b_Program_append 4 = .ok (.aload_n 0, 1) := by decide +kernel
theorem d_Program_append_5 : decode b_Program_append 5 = .ok (.getfield 33, 3) := by decide +kernel
theorem d_Program_append_8 : decode b_Program_append 8 = .ok (.aload_n 1, 1) := by decide +kernel
theorem d_Program_append_9 : decode b_Program_append 9 = .ok (.getfield 37, 3) := by decide +kernel
theorem d_Program_append_12 : decode b_Program_append 12 = .ok (.iastore, 1) := by decide +kernel
theorem d_Program_append_13 : decode b_Program_append 13 = .ok (.aload_n 0, 1) := by decide +kernel
theorem d_Program_append_14 : decode b_Program_append 14 = .ok (.getfield 15, 3) := by decide +kernel
theorem d_Program_append_17 : decode b_Program_append 17 = .ok (.aload_n 0, 1) := by decide +kernel
theorem d_Program_append_18 : decode b_Program_append 18 = .ok (.getfield 33, 3) := by decide +kernel
theorem d_Program_append_21 : decode b_Program_append 21 = .ok (.aload_n 1, 1) := by decide +kernel
theorem d_Program_append_22 : decode b_Program_append 22 = .ok (.getfield 42, 3) := by decide +kernel
theorem d_Program_append_25 : decode b_Program_append 25 = .ok (.iastore, 1) := by decide +kernel
theorem d_Program_append_26 : decode b_Program_append 26 = .ok (.aload_n 0, 1) := by decide +kernel
theorem d_Program_append_27 : decode b_Program_append 27 = .ok (.getfield 18, 3) := by decide +kernel
theorem d_Program_append_30 : decode b_Program_append 30 = .ok (.aload_n 0, 1) := by decide +kernel
theorem d_Program_append_31 : decode b_Program_append 31 = .ok (.getfield 33, 3) := by decide +kernel
theorem d_Program_append_34 : decode b_Program_append 34 = .ok (.aload_n 1, 1) := by decide +kernel
theorem d_Program_append_35 : decode b_Program_append 35 = .ok (.getfield 45, 3) := by decide +kernel
theorem d_Program_append_38 : decode b_Program_append 38 = .ok (.iastore, 1) := by decide +kernel
theorem d_Program_append_39 : decode b_Program_append 39 = .ok (.aload_n 0, 1) := by decide +kernel
theorem d_Program_append_40 : decode b_Program_append 40 = .ok (.getfield 33, 3) := by decide +kernel
theorem d_Program_append_43 : decode b_Program_append 43 = .ok (.bipush 16, 2) := by decide +kernel
theorem d_Program_append_45 : decode b_Program_append 45 = .ok (.imul, 1) := by decide +kernel
theorem d_Program_append_46 : decode b_Program_append 46 = .ok (.istore_n 2, 1) := by decide +kernel
theorem d_Program_append_47 : decode b_Program_append 47 = .ok (.aload_n 1, 1) := by decide +kernel
theorem d_Program_append_48 : decode b_Program_append 48 = .ok (.getfield 48, 3) := by decide +kernel
theorem d_Program_append_51 : decode b_Program_append 51 = .ok (.iconst 0, 1) := by decide +kernel
theorem d_Program_append_52 : decode b_Program_append 52 = .ok (.aload_n 0, 1) := by decide +kernel
theorem d_Program_append_53 : decode b_Program_append 53 = .ok (.getfield 21, 3) := by decide +kernel
theorem d_Program_append_56 : decode b_Program_append 56 = .ok (.iload_n 2, 1) := by decide +kernel
theorem d_Program_append_57 : decode b_Program_append 57 = .ok (.aload_n 1, 1) := by decide +kernel
theorem d_Program_append_58 : decode b_Program_append 58 = .ok (.getfield 45, 3) := by decide +kernel
theorem d_Program_append_61 : decode b_Program_append 61 = .ok (.invokestatic 49, 3) := by decide +kernel
theorem d_Program_append_64 : decode b_Program_append 64 = .ok (.aload_n 1, 1) := by decide +kernel
theorem d_Program_append_65 : decode b_Program_append 65 = .ok (.getfield 55, 3) := by decide +kernel
theorem d_Program_append_68 : decode b_Program_append 68 = .ok (.iconst 0, 1) := by decide +kernel
theorem d_Program_append_69 : decode b_Program_append 69 = .ok (.aload_n 0, 1) := by decide +kernel
theorem d_Program_append_70 : decode b_Program_append 70 = .ok (.getfield 24, 3) := by decide +kernel
theorem d_Program_append_73 : decode b_Program_append 73 = .ok (.iload_n 2, 1) := by decide +kernel
theorem d_Program_append_74 : decode b_Program_append 74 = .ok (.aload_n 1, 1) := by decide +kernel
theorem d_Program_append_75 : decode b_Program_append 75 = .ok (.getfield 45, 3) := by decide +kernel
theorem d_Program_append_78 : decode b_Program_append 78 = .ok (.invokestatic 49, 3) := by decide +kernel
theorem d_Program_append_81 : decode b_Program_append 81 = .ok (.aload_n 0, 1) := by decide +kernel
theorem d_Program_append_82 : decode b_Program_append 82 = .ok (.dup, 1) := by decide +kernel
theorem d_Program_append_83 : decode b_Program_append 83 = .ok (.getfield 33, 3) := by decide +kernel
theorem d_Program_append_86 : decode b_Program_append 86 = .ok (.iconst 1, 1) := by decide +kernel
theorem d_Program_append_87 : decode b_Program_append 87 = .ok (.iadd, 1) := by decide +kernel
theorem d_Program_append_88 : decode b_Program_append 88 = .ok (.putfield 33, 3) := by decide +kernel
theorem d_Program_append_91 : decode b_Program_append 91 = .ok (.return_, 1) := by decide +kernel
def μ_Program_append_9 : ax_M := (b_Program_append, 3, "DotConsole$Program", none, 1, 30, 0, 0)
theorem Y_Program_append_9 : ax_YV μ_Program_append_9 y_Program_append 1 := ⟨⟨ax_mem (by decide +kernel) rfl, ax_mem (by decide +kernel) rfl, by decide, by decide, by decide +kernel⟩, ax_mem (by decide +kernel) rfl, ax_mem (by decide +kernel) rfl⟩
theorem kf_Program_9 : Cond.fieldLink "DotConsole$Program" 9 "DotConsole$Program" "statements" "[I" ∈ ax_T := ax_mem (by decide +kernel) rfl
theorem kf_Program_33 : Cond.fieldLink "DotConsole$Program" 33 "DotConsole$Program" "lines" "I" ∈ ax_T := ax_mem (by decide +kernel) rfl
theorem kf_Program_37 : Cond.fieldLink "DotConsole$Program" 37 "DotConsole$LineReader" "statement" "I" ∈ ax_T := ax_mem (by decide +kernel) rfl
theorem kf_Program_15 : Cond.fieldLink "DotConsole$Program" 15 "DotConsole$Program" "targets" "[I" ∈ ax_T := ax_mem (by decide +kernel) rfl
theorem kf_Program_42 : Cond.fieldLink "DotConsole$Program" 42 "DotConsole$LineReader" "target" "I" ∈ ax_T := ax_mem (by decide +kernel) rfl
theorem kf_Program_18 : Cond.fieldLink "DotConsole$Program" 18 "DotConsole$Program" "nodeCounts" "[I" ∈ ax_T := ax_mem (by decide +kernel) rfl
theorem kf_Program_45 : Cond.fieldLink "DotConsole$Program" 45 "DotConsole$LineReader" "nodeCount" "I" ∈ ax_T := ax_mem (by decide +kernel) rfl
theorem kf_Program_48 : Cond.fieldLink "DotConsole$Program" 48 "DotConsole$LineReader" "kinds" "[I" ∈ ax_T := ax_mem (by decide +kernel) rfl
theorem kf_Program_21 : Cond.fieldLink "DotConsole$Program" 21 "DotConsole$Program" "kinds" "[I" ∈ ax_T := ax_mem (by decide +kernel) rfl
theorem km_Program_49 : Cond.methodLink "DotConsole$Program" 49 ⟨"java/lang/System", "arraycopy", "(Ljava/lang/Object;ILjava/lang/Object;II)V"⟩ ∈ ax_T := ax_mem (by decide +kernel) rfl
theorem kf_Program_55 : Cond.fieldLink "DotConsole$Program" 55 "DotConsole$LineReader" "operands" "[I" ∈ ax_T := ax_mem (by decide +kernel) rfl
theorem kf_Program_24 : Cond.fieldLink "DotConsole$Program" 24 "DotConsole$Program" "operands" "[I" ∈ ax_T := ax_mem (by decide +kernel) rfl
def J_Program_append_9 (N : Nat) (σ : St) : Option St :=
  (if (inB (σ.1 16) 28) = true then ax_let (sA σ 12 (σ.1 16).toNatClampNeg (σ.1 8)) (fun σ1 =>
  (if (inB (σ1.1 16) 28) = true then ax_let (sA σ1 13 (σ1.1 16).toNatClampNeg (σ1.1 9)) (fun σ2 =>
  (if (inB (σ2.1 16) 28) = true then ax_let (sA σ2 14 (σ2.1 16).toNatClampNeg (σ2.1 10)) (fun σ3 =>
  ax_let (((σ3.1 16) * 16) : Int32) (fun v1 =>
  (if (cpB 0 v1 (σ3.1 10) 48 448) = true then ax_let (sC σ3 6 15 (0 : Int32).toNatClampNeg v1.toNatClampNeg (σ3.1 10).toNatClampNeg) (fun σ4 =>
  (if (cpB 0 v1 (σ4.1 10) 48 448) = true then ax_let (sC σ4 7 16 (0 : Int32).toNatClampNeg v1.toNatClampNeg (σ4.1 10).toNatClampNeg) (fun σ5 =>
  ax_let (sF σ5 16 ((σ5.1 16) + 1)) (fun σ6 =>
  some σ6)) else none)) else none))) else none)) else none)) else none)
set_option maxHeartbeats 1000000 in
theorem c_Program_append_9 {N : Nat} {g : ax_G} {σ : St} {s9 : St} (hJ : J_Program_append_9 N σ = some s9) : ax_CV μ_Program_append_9 g y_Program_append (wC g) [.ref (g.2.1 16), .ref (g.2.1 9)] σ (ax_eqV s9) := by
  refine ax_CV.of (plainFor_of_name rfl) rfl (Nat.le_of_ble_eq_true rfl) (fun x A _ => ?_)
  show AW x μ_Program_append_9 g A (wC g) (0, 0) (ax_QV x μ_Program_append_9 g A (wC g) (ax_eqV s9)) 0 [(0, .ref (g.2.1 16)), (1, .ref (g.2.1 9))] [] σ
  rw [J_Program_append_9] at hJ
  refine aw_aload_n (n := 1) d_Program_append_0 rfl rfl 0 rfl ?_
  refine gf_Program_statements (n := 4) d_Program_append_1 rfl kf_Program_9 ?_
  refine aw_aload_n (n := 5) d_Program_append_4 rfl rfl 0 rfl ?_
  refine gf_Program_lines (n := 8) d_Program_append_5 rfl kf_Program_33 ?_
  refine aw_aload_n (n := 9) d_Program_append_8 rfl rfl 1 rfl ?_
  refine gf_LineReader_statement (n := 12) d_Program_append_9 rfl kf_Program_37 ?_
  obtain ⟨h1, hJ⟩ := ax_need hJ
  refine as_17 (n := 13) d_Program_append_12 rfl h1 ?_
  obtain ⟨σ1, eσ1, hJ⟩ := ax_letE hJ
  refine aw_let eσ1 ?_
  refine aw_aload_n (n := 14) d_Program_append_13 rfl rfl 0 rfl ?_
  refine gf_Program_targets (n := 17) d_Program_append_14 rfl kf_Program_15 ?_
  refine aw_aload_n (n := 18) d_Program_append_17 rfl rfl 0 rfl ?_
  refine gf_Program_lines (n := 21) d_Program_append_18 rfl kf_Program_33 ?_
  refine aw_aload_n (n := 22) d_Program_append_21 rfl rfl 1 rfl ?_
  refine gf_LineReader_target (n := 25) d_Program_append_22 rfl kf_Program_42 ?_
  obtain ⟨h2, hJ⟩ := ax_need hJ
  refine as_18 (n := 26) d_Program_append_25 rfl h2 ?_
  obtain ⟨σ2, eσ2, hJ⟩ := ax_letE hJ
  refine aw_let eσ2 ?_
  refine aw_aload_n (n := 27) d_Program_append_26 rfl rfl 0 rfl ?_
  refine gf_Program_nodeCounts (n := 30) d_Program_append_27 rfl kf_Program_18 ?_
  refine aw_aload_n (n := 31) d_Program_append_30 rfl rfl 0 rfl ?_
  refine gf_Program_lines (n := 34) d_Program_append_31 rfl kf_Program_33 ?_
  refine aw_aload_n (n := 35) d_Program_append_34 rfl rfl 1 rfl ?_
  refine gf_LineReader_nodeCount (n := 38) d_Program_append_35 rfl kf_Program_45 ?_
  obtain ⟨h3, hJ⟩ := ax_need hJ
  refine as_19 (n := 39) d_Program_append_38 rfl h3 ?_
  obtain ⟨σ3, eσ3, hJ⟩ := ax_letE hJ
  refine aw_let eσ3 ?_
  refine aw_aload_n (n := 40) d_Program_append_39 rfl rfl 0 rfl ?_
  refine gf_Program_lines (n := 43) d_Program_append_40 rfl kf_Program_33 ?_
  refine aw_bipush (n := 45) (v := 16) d_Program_append_43 rfl (by decide) ?_
  refine aw_imul (n := 46) d_Program_append_45 rfl ?_
  obtain ⟨v1, ev1, hJ⟩ := ax_letE hJ
  refine aw_top ev1 ?_
  refine aw_istore_n (n := 47) d_Program_append_46 rfl rfl (by decide) rfl ?_
  refine aw_aload_n (n := 48) d_Program_append_47 rfl rfl 2 rfl ?_
  refine gf_LineReader_kinds (n := 51) d_Program_append_48 rfl kf_Program_48 ?_
  refine aw_iconst (n := 52) (v := 0) d_Program_append_51 rfl (by decide) ?_
  refine aw_aload_n (n := 53) d_Program_append_52 rfl rfl 1 rfl ?_
  refine gf_Program_kinds (n := 56) d_Program_append_53 rfl kf_Program_21 ?_
  refine aw_iload_n (n := 57) d_Program_append_56 rfl rfl 0 rfl ?_
  refine aw_aload_n (n := 58) d_Program_append_57 rfl rfl 2 rfl ?_
  refine gf_LineReader_nodeCount (n := 61) d_Program_append_58 rfl kf_Program_45 ?_
  obtain ⟨h4, hJ⟩ := ax_need hJ
  refine cp_10_20 (n := 64) h4 (by decide) (Nat.le_of_ble_eq_true rfl) km_Program_49 d_Program_append_61 rfl ?_
  obtain ⟨σ4, eσ4, hJ⟩ := ax_letE hJ
  refine aw_let eσ4 ?_
  refine aw_aload_n (n := 65) d_Program_append_64 rfl rfl 2 rfl ?_
  refine gf_LineReader_operands (n := 68) d_Program_append_65 rfl kf_Program_55 ?_
  refine aw_iconst (n := 69) (v := 0) d_Program_append_68 rfl (by decide) ?_
  refine aw_aload_n (n := 70) d_Program_append_69 rfl rfl 1 rfl ?_
  refine gf_Program_operands (n := 73) d_Program_append_70 rfl kf_Program_24 ?_
  refine aw_iload_n (n := 74) d_Program_append_73 rfl rfl 0 rfl ?_
  refine aw_aload_n (n := 75) d_Program_append_74 rfl rfl 2 rfl ?_
  refine gf_LineReader_nodeCount (n := 78) d_Program_append_75 rfl kf_Program_45 ?_
  obtain ⟨h5, hJ⟩ := ax_need hJ
  refine cp_11_21 (n := 81) h5 (by decide) (Nat.le_of_ble_eq_true rfl) km_Program_49 d_Program_append_78 rfl ?_
  obtain ⟨σ5, eσ5, hJ⟩ := ax_letE hJ
  refine aw_let eσ5 ?_
  refine aw_aload_n (n := 82) d_Program_append_81 rfl rfl 1 rfl ?_
  refine aw_dup (n := 83) d_Program_append_82 rfl rfl ?_
  refine gf_Program_lines (n := 86) d_Program_append_83 rfl kf_Program_33 ?_
  refine aw_iconst (n := 87) (v := 1) d_Program_append_86 rfl (by decide) ?_
  refine aw_iadd (n := 88) d_Program_append_87 rfl ?_
  refine pf_Program_lines (n := 91) d_Program_append_88 rfl kf_Program_33 ?_
  obtain ⟨σ6, eσ6, hJ⟩ := ax_letE hJ
  refine aw_let eσ6 ?_
  exact aw_vret d_Program_append_91 rfl (ax_retV hJ)
