/-! WALKED: Con_count. Printed by wip/whole/build.py. -/
abbrev b_Con_count : ByteArray := prog_1_method_14_code
def y_Con_count : MethodName := ⟨"DotConsole", "count", "(I)I"⟩
theorem d_Con_count_0 : decode b_Con_count 0 = .ok (.iload_n 1, 1) := by decide +kernel
theorem d_Con_count_1 : decode b_Con_count 1 = .ok (.tableswitch 95 0 5 #[39, 47, 55, 63, 71, 79], 39) := by decide +kernel
theorem d_Con_count_40 : decode b_Con_count 40 = .ok (.aload_n 0, 1) := by decide +kernel
theorem d_Con_count_41 : decode b_Con_count 41 = .ok (.getfield 35, 3) := by decide +kernel
theorem d_Con_count_44 : decode b_Con_count 44 = .ok (.getfield 89, 3) := by decide +kernel
theorem d_Con_count_47 : decode b_Con_count 47 = .ok (.ireturn, 1) := by decide +kernel
theorem d_Con_count_48 : decode b_Con_count 48 = .ok (.aload_n 0, 1) := by decide +kernel
theorem d_Con_count_49 : decode b_Con_count 49 = .ok (.getfield 10, 3) := by decide +kernel
theorem d_Con_count_52 : decode b_Con_count 52 = .ok (.getfield 56, 3) := by decide +kernel
theorem d_Con_count_55 : decode b_Con_count 55 = .ok (.ireturn, 1) := by decide +kernel
theorem d_Con_count_56 : decode b_Con_count 56 = .ok (.aload_n 0, 1) := by decide +kernel
theorem d_Con_count_57 : decode b_Con_count 57 = .ok (.getfield 19, 3) := by decide +kernel
theorem d_Con_count_60 : decode b_Con_count 60 = .ok (.getfield 119, 3) := by decide +kernel
theorem d_Con_count_63 : decode b_Con_count 63 = .ok (.ireturn, 1) := by decide +kernel
theorem d_Con_count_64 : decode b_Con_count 64 = .ok (.aload_n 0, 1) := by decide +kernel
theorem d_Con_count_65 : decode b_Con_count 65 = .ok (.getfield 44, 3) := by decide +kernel
theorem d_Con_count_68 : decode b_Con_count 68 = .ok (.getfield 136, 3) := by decide +kernel
theorem d_Con_count_71 : decode b_Con_count 71 = .ok (.ireturn, 1) := by decide +kernel
theorem d_Con_count_72 : decode b_Con_count 72 = .ok (.aload_n 0, 1) := by decide +kernel
theorem d_Con_count_73 : decode b_Con_count 73 = .ok (.getfield 44, 3) := by decide +kernel
theorem d_Con_count_76 : decode b_Con_count 76 = .ok (.getfield 139, 3) := by decide +kernel
theorem d_Con_count_79 : decode b_Con_count 79 = .ok (.ireturn, 1) := by decide +kernel
theorem d_Con_count_80 : decode b_Con_count 80 = .ok (.aload_n 0, 1) := by decide +kernel
theorem d_Con_count_81 : decode b_Con_count 81 = .ok (.getfield 35, 3) := by decide +kernel
theorem d_Con_count_84 : decode b_Con_count 84 = .ok (.getfield 59, 3) := by decide +kernel
theorem d_Con_count_87 : decode b_Con_count 87 = .ok (.ifCond .eq 7, 3) := by decide +kernel
theorem d_Con_count_90 : decode b_Con_count 90 = .ok (.iconst 1, 1) := by decide +kernel
theorem d_Con_count_91 : decode b_Con_count 91 = .ok (.goto 4, 3) := by decide +kernel
theorem d_Con_count_94 : decode b_Con_count 94 = .ok (.iconst 0, 1) := by decide +kernel
theorem d_Con_count_95 : decode b_Con_count 95 = .ok (.ireturn, 1) := by decide +kernel
theorem d_Con_count_96 : decode b_Con_count 96 = .ok (.iconst (-1), 1) := by decide +kernel
theorem d_Con_count_97 : decode b_Con_count 97 = .ok (.ireturn, 1) := by decide +kernel
def μ_Con_count : ax_M := (b_Con_count, 2, "DotConsole", (some .int), 0, 0, 0, 0)
theorem Y_Con_count : ax_YV μ_Con_count y_Con_count 1 := ⟨⟨ax_mem (by decide +kernel) rfl, ax_mem (by decide +kernel) rfl, by decide, by decide, by decide +kernel⟩, ax_mem (by decide +kernel) rfl, ax_mem (by decide +kernel) rfl⟩
theorem kf_Con_136 : Cond.fieldLink "DotConsole" 136 "DotConsole$Machine" "frames" "I" ∈ ax_T := ax_mem (by decide +kernel) rfl
theorem kf_Con_139 : Cond.fieldLink "DotConsole" 139 "DotConsole$Machine" "steps" "I" ∈ ax_T := ax_mem (by decide +kernel) rfl
def J_Con_count (N : Nat) (a1 : Int32) (σ : St) : Option (Int32 × St) :=
  (if a1 = 0 then some ((σ.1 16), σ)
  else (if a1 = 1 then some ((σ.1 1), σ)
  else (if a1 = 2 then some ((σ.1 4), σ)
  else (if a1 = 3 then some ((σ.1 20), σ)
  else (if a1 = 4 then some ((σ.1 21), σ)
  else (if a1 = 5 then (if (σ.1 17) = 0 then
  some (0, σ)
  else some (1, σ))
  else some ((-1), σ)))))))
set_option maxHeartbeats 1000000 in
theorem c_Con_count {N : Nat} {g : ax_G} {a1 : Int32} {σ : St} {r9 : Int32} {s9 : St} (hJ : J_Con_count N a1 σ = some (r9, s9)) : ax_CI μ_Con_count g y_Con_count (wC g) [.ref (g.2.1 0), .int a1] σ (ax_eqI r9 s9) := by
  refine ax_CI.of (plainFor_of_name rfl) rfl (Nat.le_of_ble_eq_true rfl) (fun x A _ => ?_)
  show AW x μ_Con_count g A (wC g) (0, 0) (ax_QI x μ_Con_count g A (wC g) (ax_eqI r9 s9)) 0 [(0, .ref (g.2.1 0)), (1, .int a1)] [] σ
  rw [J_Con_count] at hJ
  refine aw_iload_n (n := 1) d_Con_count_0 rfl rfl 1 rfl ?_
  rcases ax_ifE hJ with ⟨c1, hJ⟩ | ⟨c1, hJ⟩
  · refine aw_tableIn (t := 40) (off := 39) d_Con_count_1 (by rw [c1]; decide) (by rw [c1]; decide) (by first | (rw [c1]; done) | (rw [c1]; decide)) (by decide) ?_
    refine aw_aload_n (n := 41) d_Con_count_40 rfl rfl 0 rfl ?_
    refine gf_Con_program (n := 44) d_Con_count_41 rfl kf_Con_35 ?_
    refine gf_Program_lines (n := 47) d_Con_count_44 rfl kf_Con_89 ?_
    exact aw_iret d_Con_count_47 rfl (ax_ret hJ)
  rcases ax_ifE hJ with ⟨c2, hJ⟩ | ⟨c2, hJ⟩
  · refine aw_tableIn (t := 48) (off := 47) d_Con_count_1 (by rw [c2]; decide) (by rw [c2]; decide) (by first | (rw [c2]; done) | (rw [c2]; decide)) (by decide) ?_
    refine aw_aload_n (n := 49) d_Con_count_48 rfl rfl 0 rfl ?_
    refine gf_Con_tokens (n := 52) d_Con_count_49 rfl kf_Con_10 ?_
    refine gf_Tokens_length (n := 55) d_Con_count_52 rfl kf_Con_56 ?_
    exact aw_iret d_Con_count_55 rfl (ax_ret hJ)
  rcases ax_ifE hJ with ⟨c3, hJ⟩ | ⟨c3, hJ⟩
  · refine aw_tableIn (t := 56) (off := 55) d_Con_count_1 (by rw [c3]; decide) (by rw [c3]; decide) (by first | (rw [c3]; done) | (rw [c3]; decide)) (by decide) ?_
    refine aw_aload_n (n := 57) d_Con_count_56 rfl rfl 0 rfl ?_
    refine gf_Con_names (n := 60) d_Con_count_57 rfl kf_Con_19 ?_
    refine gf_Names_kept (n := 63) d_Con_count_60 rfl kf_Con_119 ?_
    exact aw_iret d_Con_count_63 rfl (ax_ret hJ)
  rcases ax_ifE hJ with ⟨c4, hJ⟩ | ⟨c4, hJ⟩
  · refine aw_tableIn (t := 64) (off := 63) d_Con_count_1 (by rw [c4]; decide) (by rw [c4]; decide) (by first | (rw [c4]; done) | (rw [c4]; decide)) (by decide) ?_
    refine aw_aload_n (n := 65) d_Con_count_64 rfl rfl 0 rfl ?_
    refine gf_Con_machine (n := 68) d_Con_count_65 rfl kf_Con_44 ?_
    refine gf_Machine_frames (n := 71) d_Con_count_68 rfl kf_Con_136 ?_
    exact aw_iret d_Con_count_71 rfl (ax_ret hJ)
  rcases ax_ifE hJ with ⟨c5, hJ⟩ | ⟨c5, hJ⟩
  · refine aw_tableIn (t := 72) (off := 71) d_Con_count_1 (by rw [c5]; decide) (by rw [c5]; decide) (by first | (rw [c5]; done) | (rw [c5]; decide)) (by decide) ?_
    refine aw_aload_n (n := 73) d_Con_count_72 rfl rfl 0 rfl ?_
    refine gf_Con_machine (n := 76) d_Con_count_73 rfl kf_Con_44 ?_
    refine gf_Machine_steps (n := 79) d_Con_count_76 rfl kf_Con_139 ?_
    exact aw_iret d_Con_count_79 rfl (ax_ret hJ)
  rcases ax_ifE hJ with ⟨c6, hJ⟩ | ⟨c6, hJ⟩
  · refine aw_tableIn (t := 80) (off := 79) d_Con_count_1 (by rw [c6]; decide) (by rw [c6]; decide) (by first | (rw [c6]; done) | (rw [c6]; decide)) (by decide) ?_
    refine aw_aload_n (n := 81) d_Con_count_80 rfl rfl 0 rfl ?_
    refine gf_Con_program (n := 84) d_Con_count_81 rfl kf_Con_35 ?_
    refine gf_Program_sealed (n := 87) d_Con_count_84 rfl kf_Con_59 ?_
    refine aw_if_eq (n := 90) (t := 94) d_Con_count_87 rfl (by decide) (fun c7 => ?_) (fun c7 => ?_)
    · rw [if_pos c7] at hJ
      refine aw_iconst (n := 95) (v := 0) d_Con_count_94 rfl (by decide) ?_
      exact aw_iret d_Con_count_95 rfl (ax_ret hJ)
    · rw [if_neg c7] at hJ
      refine aw_iconst (n := 91) (v := 1) d_Con_count_90 rfl (by decide) ?_
      refine aw_goto (t := 95) d_Con_count_91 (by decide) ?_
      exact aw_iret d_Con_count_95 rfl (ax_ret hJ)
  have q0 := lv_neT (a := 0) c1 (by decide)
  have q1 := lv_neT (a := 1) c2 (by decide)
  have q2 := lv_neT (a := 2) c3 (by decide)
  have q3 := lv_neT (a := 3) c4 (by decide)
  have q4 := lv_neT (a := 4) c5 (by decide)
  have q5 := lv_neT (a := 5) c6 (by decide)
  refine aw_tableOut (t := 96) d_Con_count_1 (by omega) (by decide) ?_
  refine aw_iconst (n := 97) (v := -1) d_Con_count_96 rfl (by decide) ?_
  exact aw_iret d_Con_count_97 rfl (ax_ret hJ)
