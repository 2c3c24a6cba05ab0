/-! WALKED: Machine_doLine, Machine_runFrame, Con_frame, CArrays_fill_25, CArrays_fill_26, CArrays_fill_31, Pad_release, Machine_reset, Con_restart, Con_dot, Con_value, Names_letterAt, Con_name, Con_cell, Con_nodes. Printed by wip/whole/build.py. -/
abbrev b_Machine_doLine : ByteArray := prog_3_method_6_code
def y_Machine_doLine : MethodName := ⟨"DotConsole$Machine", "doLine", "(I)I"⟩
theorem d_Machine_doLine_0 : decode b_Machine_doLine 0 = .ok (.aload_n 0, 1) := by decide +kernel
theorem d_Machine_doLine_1 : decode b_Machine_doLine 1 = .ok (.iload_n 1, 1) := by decide +kernel
theorem d_Machine_doLine_2 : decode b_Machine_doLine 2 = .ok (.invokevirtual 77, 3) := by decide +kernel
theorem d_Machine_doLine_5 : decode b_Machine_doLine 5 = .ok (.aload_n 0, 1) := by decide +kernel
theorem d_Machine_doLine_6 : decode b_Machine_doLine 6 = .ok (.getfield 39, 3) := by decide +kernel
theorem d_Machine_doLine_9 : decode b_Machine_doLine 9 = .ok (.getfield 80, 3) := by decide +kernel
theorem d_Machine_doLine_12 : decode b_Machine_doLine 12 = .ok (.iload_n 1, 1) := by decide +kernel
theorem d_Machine_doLine_13 : decode b_Machine_doLine 13 = .ok (.iaload, 1) := by decide +kernel
theorem d_Machine_doLine_14 : decode b_Machine_doLine 14 = .ok (.istore_n 2, 1) := by decide +kernel
theorem d_Machine_doLine_15 : decode b_Machine_doLine 15 = .ok (.iload_n 2, 1) := by decide +kernel
theorem d_Machine_doLine_16 : decode b_Machine_doLine 16 = .ok (.iconst 4, 1) := by decide +kernel
theorem d_Machine_doLine_17 : decode b_Machine_doLine 17 = .ok (.if_icmp .eq 9, 3) := by decide +kernel
theorem d_Machine_doLine_20 : decode b_Machine_doLine 20 = .ok (.iload_n 2, 1) := by decide +kernel
theorem d_Machine_doLine_21 : decode b_Machine_doLine 21 = .ok (.bipush 6, 2) := by decide +kernel
theorem d_Machine_doLine_23 : decode b_Machine_doLine 23 = .ok (.if_icmp .ne 28, 3) := by decide +kernel
theorem d_Machine_doLine_26 : decode b_Machine_doLine 26 = .ok (.aload_n 0, 1) := by decide +kernel
theorem d_Machine_doLine_27 : decode b_Machine_doLine 27 = .ok (.getfield 36, 3) := by decide +kernel
theorem d_Machine_doLine_30 : decode b_Machine_doLine 30 = .ok (.iconst 0, 1) := by decide +kernel
theorem d_Machine_doLine_31 : decode b_Machine_doLine 31 = .ok (.iaload, 1) := by decide +kernel
theorem d_Machine_doLine_32 : decode b_Machine_doLine 32 = .ok (.ifCond .eq 9, 3) := by decide +kernel
theorem d_Machine_doLine_35 : decode b_Machine_doLine 35 = .ok (.iload_n 1, 1) := by decide +kernel
theorem d_Machine_doLine_36 : decode b_Machine_doLine 36 = .ok (.iconst 1, 1) := by decide +kernel
theorem d_Machine_doLine_37 : decode b_Machine_doLine 37 = .ok (.iadd, 1) := by decide +kernel
theorem d_Machine_doLine_38 : decode b_Machine_doLine 38 = .ok (.goto 12, 3) := by decide +kernel
theorem d_Machine_doLine_41 : decode b_Machine_doLine 41 = .ok (.aload_n 0, 1) := by decide +kernel
theorem d_Machine_doLine_42 : decode b_Machine_doLine 42 = .ok (.getfield 39, 3) := by decide +kernel
theorem d_Machine_doLine_45 : decode b_Machine_doLine 45 = .ok (.getfield 83, 3) := by decide +kernel
theorem d_Machine_doLine_48 : decode b_Machine_doLine 48 = .ok (.iload_n 1, 1) := by decide +kernel
theorem d_Machine_doLine_49 : decode b_Machine_doLine 49 = .ok (.iaload, 1) := by decide +kernel
theorem d_Machine_doLine_50 : decode b_Machine_doLine 50 = .ok (.ireturn, 1) := by decide +kernel
theorem d_Machine_doLine_51 : decode b_Machine_doLine 51 = .ok (.iload_n 2, 1) := by decide +kernel
theorem d_Machine_doLine_52 : decode b_Machine_doLine 52 = .ok (.iconst 3, 1) := by decide +kernel
theorem d_Machine_doLine_53 : decode b_Machine_doLine 53 = .ok (.if_icmp .ne 26, 3) := by decide +kernel
theorem d_Machine_doLine_56 : decode b_Machine_doLine 56 = .ok (.aload_n 0, 1) := by decide +kernel
theorem d_Machine_doLine_57 : decode b_Machine_doLine 57 = .ok (.getfield 25, 3) := by decide +kernel
theorem d_Machine_doLine_60 : decode b_Machine_doLine 60 = .ok (.aload_n 0, 1) := by decide +kernel
theorem d_Machine_doLine_61 : decode b_Machine_doLine 61 = .ok (.getfield 39, 3) := by decide +kernel
theorem d_Machine_doLine_64 : decode b_Machine_doLine 64 = .ok (.getfield 86, 3) := by decide +kernel
theorem d_Machine_doLine_67 : decode b_Machine_doLine 67 = .ok (.iload_n 1, 1) := by decide +kernel
theorem d_Machine_doLine_68 : decode b_Machine_doLine 68 = .ok (.iaload, 1) := by decide +kernel
theorem d_Machine_doLine_69 : decode b_Machine_doLine 69 = .ok (.aload_n 0, 1) := by decide +kernel
theorem d_Machine_doLine_70 : decode b_Machine_doLine 70 = .ok (.getfield 36, 3) := by decide +kernel
theorem d_Machine_doLine_73 : decode b_Machine_doLine 73 = .ok (.iconst 0, 1) := by decide +kernel
theorem d_Machine_doLine_74 : decode b_Machine_doLine 74 = .ok (.iaload, 1) := by decide +kernel
theorem d_Machine_doLine_75 : decode b_Machine_doLine 75 = .ok (.iastore, 1) := by decide +kernel
theorem d_Machine_doLine_76 : decode b_Machine_doLine 76 = .ok (.goto 36, 3) := by decide +kernel
theorem d_Machine_doLine_79 : decode b_Machine_doLine 79 = .ok (.iload_n 2, 1) := by decide +kernel
theorem d_Machine_doLine_80 : decode b_Machine_doLine 80 = .ok (.bipush 12, 2) := by decide +kernel
theorem d_Machine_doLine_82 : decode b_Machine_doLine 82 = .ok (.if_icmp .ne 25, 3) := by decide +kernel
theorem d_Machine_doLine_85 : decode b_Machine_doLine 85 = .ok (.aload_n 0, 1) := by decide +kernel
theorem d_Machine_doLine_86 : decode b_Machine_doLine 86 = .ok (.aload_n 0, 1) := by decide +kernel
theorem d_Machine_doLine_87 : decode b_Machine_doLine 87 = .ok (.getfield 36, 3) := by decide +kernel
theorem d_Machine_doLine_90 : decode b_Machine_doLine 90 = .ok (.iconst 0, 1) := by decide +kernel
theorem d_Machine_doLine_91 : decode b_Machine_doLine 91 = .ok (.iaload, 1) := by decide +kernel
theorem d_Machine_doLine_92 : decode b_Machine_doLine 92 = .ok (.invokestatic 89, 3) := by decide +kernel
theorem d_Machine_doLine_95 : decode b_Machine_doLine 95 = .ok (.aload_n 0, 1) := by decide +kernel
theorem d_Machine_doLine_96 : decode b_Machine_doLine 96 = .ok (.getfield 36, 3) := by decide +kernel
theorem d_Machine_doLine_99 : decode b_Machine_doLine 99 = .ok (.iconst 1, 1) := by decide +kernel
theorem d_Machine_doLine_100 : decode b_Machine_doLine 100 = .ok (.iaload, 1) := by decide +kernel
theorem d_Machine_doLine_101 : decode b_Machine_doLine 101 = .ok (.invokevirtual 92, 3) := by decide +kernel
theorem d_Machine_doLine_104 : decode b_Machine_doLine 104 = .ok (.goto 8, 3) := by decide +kernel
theorem d_Machine_doLine_107 : decode b_Machine_doLine 107 = .ok (.aload_n 0, 1) := by decide +kernel
theorem d_Machine_doLine_108 : decode b_Machine_doLine 108 = .ok (.iload_n 2, 1) := by decide +kernel
theorem d_Machine_doLine_109 : decode b_Machine_doLine 109 = .ok (.invokevirtual 96, 3) := by decide +kernel
theorem d_Machine_doLine_112 : decode b_Machine_doLine 112 = .ok (.iload_n 1, 1) := by decide +kernel
theorem d_Machine_doLine_113 : decode b_Machine_doLine 113 = .ok (.iconst 1, 1) := by decide +kernel
theorem d_Machine_doLine_114 : decode b_Machine_doLine 114 = .ok (.iadd, 1) := by decide +kernel
theorem d_Machine_doLine_115 : decode b_Machine_doLine 115 = .ok (.ireturn, 1) := by decide +kernel
def μ_Machine_doLine : ax_M := (b_Machine_doLine, 3, "DotConsole$Machine", (some .int), 5, 112, 0, 0)
theorem Y_Machine_doLine : ax_YV μ_Machine_doLine y_Machine_doLine 1 := ⟨⟨ax_mem (by decide +kernel) rfl, ax_mem (by decide +kernel) rfl, by decide, by decide, by decide +kernel⟩, ax_mem (by decide +kernel) rfl, ax_mem (by decide +kernel) rfl⟩
theorem kf_Machine_83 : Cond.fieldLink "DotConsole$Machine" 83 "DotConsole$Program" "jumps" "[I" ∈ ax_T := ax_mem (by decide +kernel) rfl
theorem km_Machine_77 : Cond.methodLink "DotConsole$Machine" 77 ⟨"DotConsole$Machine", "workOut", "(I)V"⟩ ∈ ax_T := ax_mem (by decide +kernel) rfl
theorem kf_Machine_80 : Cond.fieldLink "DotConsole$Machine" 80 "DotConsole$Program" "statements" "[I" ∈ ax_T := ax_mem (by decide +kernel) rfl
theorem km_Machine_96 : Cond.methodLink "DotConsole$Machine" 96 ⟨"DotConsole$Machine", "draw", "(I)V"⟩ ∈ ax_T := ax_mem (by decide +kernel) rfl
theorem km_Machine_92 : Cond.methodLink "DotConsole$Machine" 92 ⟨"DotConsole$Machine", "writeCell", "(II)V"⟩ ∈ ax_T := ax_mem (by decide +kernel) rfl
theorem kf_Machine_86 : Cond.fieldLink "DotConsole$Machine" 86 "DotConsole$Program" "targets" "[I" ∈ ax_T := ax_mem (by decide +kernel) rfl
def J_Machine_doLine_26 (N : Nat) (l1 : Int32) (σ : St) : Option (Int32 × St) :=
  (if (inB 0 16) = true then (if (σ.2 21 (0 : Int32).toNatClampNeg) = 0 then
  (if (inB l1 28) = true then some ((σ.2 17 l1.toNatClampNeg), σ) else none)
  else some ((l1 + 1), σ)) else none)
def J_Machine_doLine (N : Nat) (a1 : Int32) (σ : St) : Option (Int32 × St) :=
  ax_bindV (J_Machine_workOut N a1 σ) (fun σ1 =>
  (if (inB a1 28) = true then ax_let ((σ1.2 12 a1.toNatClampNeg) : Int32) (fun v1 =>
  (if v1 = 4 then
  J_Machine_doLine_26 N a1 σ1
  else (if v1 = 6 then
  J_Machine_doLine_26 N a1 σ1
  else (if v1 = 3 then
  (if (inB a1 28) = true then (if (inB 0 16) = true then (if (inB (σ1.2 13 a1.toNatClampNeg) 12) = true then ax_let (sA σ1 19 (σ1.2 13 a1.toNatClampNeg).toNatClampNeg (σ1.2 21 (0 : Int32).toNatClampNeg)) (fun σ5 =>
  some ((a1 + 1), σ5)) else none) else none) else none)
  else (if v1 = 12 then
  (if (inB 0 16) = true then ax_bind (J_Machine_floor N (σ1.2 21 (0 : Int32).toNatClampNeg) σ1) (fun r1 σ3 =>
  (if (inB 1 16) = true then ax_bindV (J_Machine_writeCell N r1 (σ3.2 21 (1 : Int32).toNatClampNeg) σ3) (fun σ4 =>
  some ((a1 + 1), σ4)) else none)) else none)
  else ax_bindV (J_Machine_draw N v1 σ1) (fun σ2 =>
  some ((a1 + 1), σ2))))))) else none))
set_option maxHeartbeats 1000000 in
theorem t_Machine_doLine_26 {N : Nat} {g : ax_G} {r9 : Int32} {s9 : St} (x : ax_X) (A : Nat → Prop) : ∀ (l1 : Int32) (σ : St), J_Machine_doLine_26 N l1 σ = some (r9, s9) → AW x μ_Machine_doLine g A (wC g) (0, 0) (ax_QI x μ_Machine_doLine g A (wC g) (ax_eqI r9 s9)) 26 [(0, .ref (g.2.1 24)), (1, .int l1)] [] σ := by
  intro l1 σ hJ
  rw [J_Machine_doLine_26] at hJ
  refine aw_aload_n (n := 27) d_Machine_doLine_26 rfl rfl 0 rfl ?_
  refine gf_Machine_stack (n := 30) d_Machine_doLine_27 rfl kf_Machine_36 ?_
  refine aw_iconst (n := 31) (v := 0) d_Machine_doLine_30 rfl (by decide) ?_
  obtain ⟨h7, hJ⟩ := ax_need hJ
  refine al_27 (n := 32) d_Machine_doLine_31 rfl h7 ?_
  refine aw_if_eq (n := 35) (t := 41) d_Machine_doLine_32 rfl (by decide) (fun c5 => ?_) (fun c5 => ?_)
  · rw [if_pos c5] at hJ
    refine aw_aload_n (n := 42) d_Machine_doLine_41 rfl rfl 0 rfl ?_
    refine gf_Machine_program (n := 45) d_Machine_doLine_42 rfl kf_Machine_39 ?_
    refine gf_Program_jumps (n := 48) d_Machine_doLine_45 rfl kf_Machine_83 ?_
    refine aw_iload_n (n := 49) d_Machine_doLine_48 rfl rfl 1 rfl ?_
    obtain ⟨h8, hJ⟩ := ax_need hJ
    refine al_22 (n := 50) d_Machine_doLine_49 rfl h8 ?_
    exact aw_iret d_Machine_doLine_50 rfl (ax_ret hJ)
  · rw [if_neg c5] at hJ
    refine aw_iload_n (n := 36) d_Machine_doLine_35 rfl rfl 1 rfl ?_
    refine aw_iconst (n := 37) (v := 1) d_Machine_doLine_36 rfl (by decide) ?_
    refine aw_iadd (n := 38) d_Machine_doLine_37 rfl ?_
    refine aw_goto (t := 50) d_Machine_doLine_38 (by decide) ?_
    exact aw_iret d_Machine_doLine_50 rfl (ax_ret hJ)
set_option maxHeartbeats 1000000 in
theorem c_Machine_doLine {N : Nat} {g : ax_G} {a1 : Int32} {σ : St} {r9 : Int32} {s9 : St} (hJ : J_Machine_doLine N a1 σ = some (r9, s9)) : ax_CI μ_Machine_doLine g y_Machine_doLine (wC g) [.ref (g.2.1 24), .int a1] σ (ax_eqI r9 s9) := by
  refine ax_CI.of (plainFor_of_name rfl) rfl (Nat.le_of_ble_eq_true rfl) (fun x A _ => ?_)
  show AW x μ_Machine_doLine g A (wC g) (0, 0) (ax_QI x μ_Machine_doLine g A (wC g) (ax_eqI r9 s9)) 0 [(0, .ref (g.2.1 24)), (1, .int a1)] [] σ
  rw [J_Machine_doLine] at hJ
  refine aw_aload_n (n := 1) d_Machine_doLine_0 rfl rfl 0 rfl ?_
  refine aw_iload_n (n := 2) d_Machine_doLine_1 rfl rfl 1 rfl ?_
  obtain ⟨σ1, hc1, hJ⟩ := ax_bindVE hJ
  refine aw_callVv (n := 5) (c_Machine_workOut hc1) 24 rfl rfl Y_Machine_workOut km_Machine_77 (by decide) (by decide) rfl rfl (Nat.le_of_ble_eq_true rfl) d_Machine_doLine_2 rfl (fun s9 hp => ?_)
  subst hp
  refine aw_aload_n (n := 6) d_Machine_doLine_5 rfl rfl 0 rfl ?_
  refine gf_Machine_program (n := 9) d_Machine_doLine_6 rfl kf_Machine_39 ?_
  refine gf_Program_statements (n := 12) d_Machine_doLine_9 rfl kf_Machine_80 ?_
  refine aw_iload_n (n := 13) d_Machine_doLine_12 rfl rfl 1 rfl ?_
  obtain ⟨h1, hJ⟩ := ax_need hJ
  refine al_17 (n := 14) d_Machine_doLine_13 rfl h1 ?_
  obtain ⟨v1, ev1, hJ⟩ := ax_letE hJ
  refine aw_top ev1 ?_
  refine aw_istore_n (n := 15) d_Machine_doLine_14 rfl rfl (by decide) rfl ?_
  refine aw_iload_n (n := 16) d_Machine_doLine_15 rfl rfl 0 rfl ?_
  refine aw_iconst (n := 17) (v := 4) d_Machine_doLine_16 rfl (by decide) ?_
  refine aw_icmp_eq (n := 20) (t := 26) d_Machine_doLine_17 rfl (by decide) (fun c1 => ?_) (fun c1 => ?_)
  · rw [if_pos c1] at hJ
    refine aw_sub [1, 2] rfl ?_
    exact t_Machine_doLine_26 x A _ _ hJ
  · rw [if_neg c1] at hJ
    refine aw_iload_n (n := 21) d_Machine_doLine_20 rfl rfl 0 rfl ?_
    refine aw_bipush (n := 23) (v := 6) d_Machine_doLine_21 rfl (by decide) ?_
    refine aw_icmp_ne (n := 26) (t := 51) d_Machine_doLine_23 rfl (by decide) (fun c2 => ?_) (fun c2 => ?_)
    · rw [if_neg c2] at hJ
      refine aw_iload_n (n := 52) d_Machine_doLine_51 rfl rfl 0 rfl ?_
      refine aw_iconst (n := 53) (v := 3) d_Machine_doLine_52 rfl (by decide) ?_
      refine aw_icmp_ne (n := 56) (t := 79) d_Machine_doLine_53 rfl (by decide) (fun c3 => ?_) (fun c3 => ?_)
      · rw [if_neg c3] at hJ
        refine aw_iload_n (n := 80) d_Machine_doLine_79 rfl rfl 0 rfl ?_
        refine aw_bipush (n := 82) (v := 12) d_Machine_doLine_80 rfl (by decide) ?_
        refine aw_icmp_ne (n := 85) (t := 107) d_Machine_doLine_82 rfl (by decide) (fun c4 => ?_) (fun c4 => ?_)
        · rw [if_neg c4] at hJ
          refine aw_aload_n (n := 108) d_Machine_doLine_107 rfl rfl 1 rfl ?_
          refine aw_iload_n (n := 109) d_Machine_doLine_108 rfl rfl 0 rfl ?_
          obtain ⟨σ2, hc2, hJ⟩ := ax_bindVE hJ
          refine aw_callVv (n := 112) (c_Machine_draw hc2) 24 rfl rfl Y_Machine_draw km_Machine_96 (by decide) (by decide) rfl rfl (Nat.le_of_ble_eq_true rfl) d_Machine_doLine_109 rfl (fun s9 hp => ?_)
          subst hp
          refine aw_iload_n (n := 113) d_Machine_doLine_112 rfl rfl 2 rfl ?_
          refine aw_iconst (n := 114) (v := 1) d_Machine_doLine_113 rfl (by decide) ?_
          refine aw_iadd (n := 115) d_Machine_doLine_114 rfl ?_
          exact aw_iret d_Machine_doLine_115 rfl (ax_ret hJ)
        · rw [if_pos c4] at hJ
          refine aw_aload_n (n := 86) d_Machine_doLine_85 rfl rfl 1 rfl ?_
          refine aw_aload_n (n := 87) d_Machine_doLine_86 rfl rfl 1 rfl ?_
          refine gf_Machine_stack (n := 90) d_Machine_doLine_87 rfl kf_Machine_36 ?_
          refine aw_iconst (n := 91) (v := 0) d_Machine_doLine_90 rfl (by decide) ?_
          obtain ⟨h2, hJ⟩ := ax_need hJ
          refine al_27 (n := 92) d_Machine_doLine_91 rfl h2 ?_
          obtain ⟨r1, σ3, hc3, hJ⟩ := ax_bindE hJ
          refine aw_callSi (n := 95) (c_Machine_floor hc3) Y_Machine_floor km_Machine_89 (by decide) (by decide) rfl rfl (Nat.le_of_ble_eq_true rfl) d_Machine_doLine_92 rfl (fun r9 s9 hp => ?_)
          obtain ⟨rfl, rfl⟩ := hp
          refine aw_aload_n (n := 96) d_Machine_doLine_95 rfl rfl 1 rfl ?_
          refine gf_Machine_stack (n := 99) d_Machine_doLine_96 rfl kf_Machine_36 ?_
          refine aw_iconst (n := 100) (v := 1) d_Machine_doLine_99 rfl (by decide) ?_
          obtain ⟨h3, hJ⟩ := ax_need hJ
          refine al_27 (n := 101) d_Machine_doLine_100 rfl h3 ?_
          obtain ⟨σ4, hc4, hJ⟩ := ax_bindVE hJ
          refine aw_callVv (n := 104) (c_Machine_writeCell hc4) 24 rfl rfl Y_Machine_writeCell km_Machine_92 (by decide) (by decide) rfl rfl (Nat.le_of_ble_eq_true rfl) d_Machine_doLine_101 rfl (fun s9 hp => ?_)
          subst hp
          refine aw_goto (t := 112) d_Machine_doLine_104 (by decide) ?_
          refine aw_iload_n (n := 113) d_Machine_doLine_112 rfl rfl 2 rfl ?_
          refine aw_iconst (n := 114) (v := 1) d_Machine_doLine_113 rfl (by decide) ?_
          refine aw_iadd (n := 115) d_Machine_doLine_114 rfl ?_
          exact aw_iret d_Machine_doLine_115 rfl (ax_ret hJ)
      · rw [if_pos c3] at hJ
        refine aw_aload_n (n := 57) d_Machine_doLine_56 rfl rfl 1 rfl ?_
        refine gf_Machine_values (n := 60) d_Machine_doLine_57 rfl kf_Machine_25 ?_
        refine aw_aload_n (n := 61) d_Machine_doLine_60 rfl rfl 1 rfl ?_
        refine gf_Machine_program (n := 64) d_Machine_doLine_61 rfl kf_Machine_39 ?_
        refine gf_Program_targets (n := 67) d_Machine_doLine_64 rfl kf_Machine_86 ?_
        refine aw_iload_n (n := 68) d_Machine_doLine_67 rfl rfl 2 rfl ?_
        obtain ⟨h4, hJ⟩ := ax_need hJ
        refine al_18 (n := 69) d_Machine_doLine_68 rfl h4 ?_
        refine aw_aload_n (n := 70) d_Machine_doLine_69 rfl rfl 1 rfl ?_
        refine gf_Machine_stack (n := 73) d_Machine_doLine_70 rfl kf_Machine_36 ?_
        refine aw_iconst (n := 74) (v := 0) d_Machine_doLine_73 rfl (by decide) ?_
        obtain ⟨h5, hJ⟩ := ax_need hJ
        refine al_27 (n := 75) d_Machine_doLine_74 rfl h5 ?_
        obtain ⟨h6, hJ⟩ := ax_need hJ
        refine as_25 (n := 76) d_Machine_doLine_75 rfl h6 ?_
        obtain ⟨σ5, eσ5, hJ⟩ := ax_letE hJ
        refine aw_let eσ5 ?_
        refine aw_goto (t := 112) d_Machine_doLine_76 (by decide) ?_
        refine aw_iload_n (n := 113) d_Machine_doLine_112 rfl rfl 2 rfl ?_
        refine aw_iconst (n := 114) (v := 1) d_Machine_doLine_113 rfl (by decide) ?_
        refine aw_iadd (n := 115) d_Machine_doLine_114 rfl ?_
        exact aw_iret d_Machine_doLine_115 rfl (ax_ret hJ)
    · rw [if_pos c2] at hJ
      refine aw_sub [1, 2] rfl ?_
      exact t_Machine_doLine_26 x A _ _ hJ
abbrev b_Machine_runFrame : ByteArray := prog_3_method_5_code
def y_Machine_runFrame : MethodName := ⟨"DotConsole$Machine", "runFrame", "(I)Z"⟩
theorem d_Machine_runFrame_0 : decode b_Machine_runFrame 0 = .ok (.aload_n 0, 1) := by decide +kernel
theorem d_Machine_runFrame_1 : decode b_Machine_runFrame 1 = .ok (.getfield 21, 3) := by decide +kernel
theorem d_Machine_runFrame_4 : decode b_Machine_runFrame 4 = .ok (.iload_n 1, 1) := by decide +kernel
theorem d_Machine_runFrame_5 : decode b_Machine_runFrame 5 = .ok (.invokevirtual 62, 3) := by decide +kernel
theorem d_Machine_runFrame_8 : decode b_Machine_runFrame 8 = .ok (.aload_n 0, 1) := by decide +kernel
theorem d_Machine_runFrame_9 : decode b_Machine_runFrame 9 = .ok (.dup, 1) := by decide +kernel
theorem d_Machine_runFrame_10 : decode b_Machine_runFrame 10 = .ok (.getfield 56, 3) := by decide +kernel
theorem d_Machine_runFrame_13 : decode b_Machine_runFrame 13 = .ok (.iconst 1, 1) := by decide +kernel
theorem d_Machine_runFrame_14 : decode b_Machine_runFrame 14 = .ok (.iadd, 1) := by decide +kernel
theorem d_Machine_runFrame_15 : decode b_Machine_runFrame 15 = .ok (.putfield 56, 3) := by decide +kernel
theorem d_Machine_runFrame_18 : decode b_Machine_runFrame 18 = .ok (.aload_n 0, 1) := by decide +kernel
theorem d_Machine_runFrame_19 : decode b_Machine_runFrame 19 = .ok (.getfield 39, 3) := by decide +kernel
theorem d_Machine_runFrame_22 : decode b_Machine_runFrame 22 = .ok (.iconst 0, 1) := by decide +kernel
theorem d_Machine_runFrame_23 : decode b_Machine_runFrame 23 = .ok (.invokevirtual 65, 3) := by decide +kernel
theorem d_Machine_runFrame_26 : decode b_Machine_runFrame 26 = .ok (.istore_n 2, 1) := by decide +kernel
theorem d_Machine_runFrame_27 : decode b_Machine_runFrame 27 = .ok (.aload_n 0, 1) := by decide +kernel
theorem d_Machine_runFrame_28 : decode b_Machine_runFrame 28 = .ok (.iconst 0, 1) := by decide +kernel
theorem d_Machine_runFrame_29 : decode b_Machine_runFrame 29 = .ok (.putfield 59, 3) := by decide +kernel
theorem d_Machine_runFrame_32 : decode b_Machine_runFrame 32 = .ok (.aload_n 0, 1) := by decide +kernel
theorem d_Machine_runFrame_33 : decode b_Machine_runFrame 33 = .ok (.getfield 59, 3) := by decide +kernel
theorem d_Machine_runFrame_36 : decode b_Machine_runFrame 36 = .ok (.sipush 300, 3) := by decide +kernel
theorem d_Machine_runFrame_39 : decode b_Machine_runFrame 39 = .ok (.if_icmp .ge 40, 3) := by decide +kernel
theorem d_Machine_runFrame_42 : decode b_Machine_runFrame 42 = .ok (.iload_n 2, 1) := by decide +kernel
theorem d_Machine_runFrame_43 : decode b_Machine_runFrame 43 = .ok (.aload_n 0, 1) := by decide +kernel
theorem d_Machine_runFrame_44 : decode b_Machine_runFrame 44 = .ok (.getfield 39, 3) := by decide +kernel
theorem d_Machine_runFrame_47 : decode b_Machine_runFrame 47 = .ok (.getfield 71, 3) := by decide +kernel
theorem d_Machine_runFrame_50 : decode b_Machine_runFrame 50 = .ok (.if_icmp .ge 29, 3) := by decide +kernel
theorem d_Machine_runFrame_53 : decode b_Machine_runFrame 53 = .ok (.aload_n 0, 1) := by decide +kernel
theorem d_Machine_runFrame_54 : decode b_Machine_runFrame 54 = .ok (.getfield 39, 3) := by decide +kernel
theorem d_Machine_runFrame_57 : decode b_Machine_runFrame 57 = .ok (.aload_n 0, 1) := by decide +kernel
theorem d_Machine_runFrame_58 : decode b_Machine_runFrame 58 = .ok (.iload_n 2, 1) := by decide +kernel
theorem d_Machine_runFrame_59 : decode b_Machine_runFrame 59 = .ok (.invokevirtual 74, 3) := by decide +kernel
theorem d_Machine_runFrame_62 : decode b_Machine_runFrame 62 = .ok (.invokevirtual 65, 3) := by decide +kernel
theorem d_Machine_runFrame_65 : decode b_Machine_runFrame 65 = .ok (.istore_n 2, 1) := by decide +kernel
theorem d_Machine_runFrame_66 : decode b_Machine_runFrame 66 = .ok (.aload_n 0, 1) := by decide +kernel
theorem d_Machine_runFrame_67 : decode b_Machine_runFrame 67 = .ok (.dup, 1) := by decide +kernel
theorem d_Machine_runFrame_68 : decode b_Machine_runFrame 68 = .ok (.getfield 59, 3) := by decide +kernel
theorem d_Machine_runFrame_71 : decode b_Machine_runFrame 71 = .ok (.iconst 1, 1) := by decide +kernel
theorem d_Machine_runFrame_72 : decode b_Machine_runFrame 72 = .ok (.iadd, 1) := by decide +kernel
theorem d_Machine_runFrame_73 : decode b_Machine_runFrame 73 = .ok (.putfield 59, 3) := by decide +kernel
theorem d_Machine_runFrame_76 : decode b_Machine_runFrame 76 = .ok (.goto (-44), 3) := by decide +kernel
theorem d_Machine_runFrame_79 : decode b_Machine_runFrame 79 = .ok (.iload_n 2, 1) := by decide +kernel
theorem d_Machine_runFrame_80 : decode b_Machine_runFrame 80 = .ok (.aload_n 0, 1) := by decide +kernel
theorem d_Machine_runFrame_81 : decode b_Machine_runFrame 81 = .ok (.getfield 39, 3) := by decide +kernel
theorem d_Machine_runFrame_84 : decode b_Machine_runFrame 84 = .ok (.getfield 71, 3) := by decide +kernel
theorem d_Machine_runFrame_87 : decode b_Machine_runFrame 87 = .ok (.if_icmp .lt 7, 3) := by decide +kernel
theorem d_Machine_runFrame_90 : decode b_Machine_runFrame 90 = .ok (.iconst 1, 1) := by decide +kernel
theorem d_Machine_runFrame_91 : decode b_Machine_runFrame 91 = .ok (.goto 4, 3) := by decide +kernel
theorem d_Machine_runFrame_94 : decode b_Machine_runFrame 94 = .ok (.iconst 0, 1) := by decide +kernel
theorem d_Machine_runFrame_95 : decode b_Machine_runFrame 95 = .ok (.ireturn, 1) := by decide +kernel
def μ_Machine_runFrame : ax_M := (b_Machine_runFrame, 3, "DotConsole$Machine", (some .boolean), 6, 134, 0, 0)
theorem Y_Machine_runFrame : ax_YV μ_Machine_runFrame y_Machine_runFrame 1 := ⟨⟨ax_mem (by decide +kernel) rfl, ax_mem (by decide +kernel) rfl, by decide, by decide, by decide +kernel⟩, ax_mem (by decide +kernel) rfl, ax_mem (by decide +kernel) rfl⟩
theorem kf_Machine_71 : Cond.fieldLink "DotConsole$Machine" 71 "DotConsole$Program" "lines" "I" ∈ ax_T := ax_mem (by decide +kernel) rfl
theorem kf_Machine_59 : Cond.fieldLink "DotConsole$Machine" 59 "DotConsole$Machine" "steps" "I" ∈ ax_T := ax_mem (by decide +kernel) rfl
theorem km_Machine_74 : Cond.methodLink "DotConsole$Machine" 74 ⟨"DotConsole$Machine", "doLine", "(I)I"⟩ ∈ ax_T := ax_mem (by decide +kernel) rfl
theorem km_Machine_65 : Cond.methodLink "DotConsole$Machine" 65 ⟨"DotConsole$Program", "skipMarks", "(I)I"⟩ ∈ ax_T := ax_mem (by decide +kernel) rfl
theorem km_Machine_62 : Cond.methodLink "DotConsole$Machine" 62 ⟨"DotConsole$Pad", "press", "(I)V"⟩ ∈ ax_T := ax_mem (by decide +kernel) rfl
theorem kf_Machine_56 : Cond.fieldLink "DotConsole$Machine" 56 "DotConsole$Machine" "frames" "I" ∈ ax_T := ax_mem (by decide +kernel) rfl
def J_Machine_runFrame_79 (N : Nat) (l2 : Int32) (σ : St) : Option (Int32 × St) :=
  (if l2 < (σ.1 16) then
  some (0, σ)
  else some (1, σ))
def J_Machine_runFrame_32 (N : Nat) : Nat → Int32 → St → Option (Int32 × St)
  | 0, _, _ => none
  | n + 1, l2, σ => (if 300 ≤ (σ.1 21) then
  J_Machine_runFrame_79 N l2 σ
  else (if (σ.1 16) ≤ l2 then
  J_Machine_runFrame_79 N l2 σ
  else ax_bind (J_Machine_doLine N l2 σ) (fun r2 σ5 =>
  ax_bind (J_Program_skipMarks N r2 σ5) (fun r3 σ6 =>
  ax_let (sF σ6 21 ((σ6.1 21) + 1)) (fun σ7 =>
  J_Machine_runFrame_32 N n r3 σ7)))))
def J_Machine_runFrame (N : Nat) (a1 : Int32) (σ : St) : Option (Int32 × St) :=
  ax_bindV (J_Pad_press N a1 σ) (fun σ1 =>
  ax_let (sF σ1 20 ((σ1.1 20) + 1)) (fun σ2 =>
  ax_bind (J_Program_skipMarks N 0 σ2) (fun r1 σ3 =>
  ax_let (sF σ3 21 0) (fun σ4 =>
  J_Machine_runFrame_32 N N r1 σ4))))
set_option maxHeartbeats 1000000 in
theorem t_Machine_runFrame_79 {N : Nat} {g : ax_G} {r9 : Int32} {s9 : St} (x : ax_X) (A : Nat → Prop) : ∀ (l2 : Int32) (σ : St), J_Machine_runFrame_79 N l2 σ = some (r9, s9) → AW x μ_Machine_runFrame g A (wC g) (0, 0) (ax_QI x μ_Machine_runFrame g A (wC g) (ax_eqZ r9 s9)) 79 [(0, .ref (g.2.1 24)), (2, .int l2)] [] σ := by
  intro l2 σ hJ
  rw [J_Machine_runFrame_79] at hJ
  refine aw_iload_n (n := 80) d_Machine_runFrame_79 rfl rfl 1 rfl ?_
  refine aw_aload_n (n := 81) d_Machine_runFrame_80 rfl rfl 0 rfl ?_
  refine gf_Machine_program (n := 84) d_Machine_runFrame_81 rfl kf_Machine_39 ?_
  refine gf_Program_lines (n := 87) d_Machine_runFrame_84 rfl kf_Machine_71 ?_
  refine aw_icmp_lt (n := 90) (t := 94) d_Machine_runFrame_87 rfl (by decide) (fun c3 => ?_) (fun c3 => ?_)
  · rw [if_pos c3] at hJ
    refine aw_iconst (n := 95) (v := 0) d_Machine_runFrame_94 rfl (by decide) ?_
    exact aw_zret d_Machine_runFrame_95 rfl rfl (ax_retZ hJ rfl)
  · rw [if_neg c3] at hJ
    refine aw_iconst (n := 91) (v := 1) d_Machine_runFrame_90 rfl (by decide) ?_
    refine aw_goto (t := 95) d_Machine_runFrame_91 (by decide) ?_
    exact aw_zret d_Machine_runFrame_95 rfl rfl (ax_retZ hJ rfl)
set_option maxHeartbeats 1000000 in
theorem t_Machine_runFrame_32 {N : Nat} {g : ax_G} {r9 : Int32} {s9 : St} (x : ax_X) (A : Nat → Prop) : ∀ (n : Nat) (l2 : Int32) (σ : St), J_Machine_runFrame_32 N n l2 σ = some (r9, s9) → AW x μ_Machine_runFrame g A (wC g) (0, 0) (ax_QI x μ_Machine_runFrame g A (wC g) (ax_eqZ r9 s9)) 32 [(0, .ref (g.2.1 24)), (2, .int l2)] [] σ := by
  intro n
  induction n with
  | zero => intro l2 σ hJ; rw [J_Machine_runFrame_32] at hJ; cases hJ
  | succ n ih =>
    intro l2 σ hJ
    rw [J_Machine_runFrame_32] at hJ
    refine aw_aload_n (n := 33) d_Machine_runFrame_32 rfl rfl 0 rfl ?_
    refine gf_Machine_steps (n := 36) d_Machine_runFrame_33 rfl kf_Machine_59 ?_
    refine aw_sipush (n := 39) (v := 300) d_Machine_runFrame_36 rfl (by decide) ?_
    refine aw_icmp_ge (n := 42) (t := 79) d_Machine_runFrame_39 rfl (by decide) (fun c1 => ?_) (fun c1 => ?_)
    · rw [if_pos c1] at hJ
      exact t_Machine_runFrame_79 x A _ _ hJ
    · rw [if_neg c1] at hJ
      refine aw_iload_n (n := 43) d_Machine_runFrame_42 rfl rfl 1 rfl ?_
      refine aw_aload_n (n := 44) d_Machine_runFrame_43 rfl rfl 0 rfl ?_
      refine gf_Machine_program (n := 47) d_Machine_runFrame_44 rfl kf_Machine_39 ?_
      refine gf_Program_lines (n := 50) d_Machine_runFrame_47 rfl kf_Machine_71 ?_
      refine aw_icmp_ge (n := 53) (t := 79) d_Machine_runFrame_50 rfl (by decide) (fun c2 => ?_) (fun c2 => ?_)
      · rw [if_pos c2] at hJ
        exact t_Machine_runFrame_79 x A _ _ hJ
      · rw [if_neg c2] at hJ
        refine aw_aload_n (n := 54) d_Machine_runFrame_53 rfl rfl 0 rfl ?_
        refine gf_Machine_program (n := 57) d_Machine_runFrame_54 rfl kf_Machine_39 ?_
        refine aw_aload_n (n := 58) d_Machine_runFrame_57 rfl rfl 0 rfl ?_
        refine aw_iload_n (n := 59) d_Machine_runFrame_58 rfl rfl 1 rfl ?_
        obtain ⟨r2, σ5, hc3, hJ⟩ := ax_bindE hJ
        refine aw_callVi (n := 62) (c_Machine_doLine hc3) 24 rfl rfl Y_Machine_doLine km_Machine_74 (by decide) (by decide) rfl rfl (Nat.le_of_ble_eq_true rfl) d_Machine_runFrame_59 rfl (fun r9 s9 hp => ?_)
        obtain ⟨rfl, rfl⟩ := hp
        obtain ⟨r3, σ6, hc4, hJ⟩ := ax_bindE hJ
        refine aw_callVi (n := 65) (c_Program_skipMarks hc4) 16 rfl rfl Y_Program_skipMarks km_Machine_65 (by decide) (by decide) rfl rfl (Nat.le_of_ble_eq_true rfl) d_Machine_runFrame_62 rfl (fun r9 s9 hp => ?_)
        obtain ⟨rfl, rfl⟩ := hp
        refine aw_istore_n (n := 66) d_Machine_runFrame_65 rfl rfl (by decide) rfl ?_
        refine aw_aload_n (n := 67) d_Machine_runFrame_66 rfl rfl 1 rfl ?_
        refine aw_dup (n := 68) d_Machine_runFrame_67 rfl rfl ?_
        refine gf_Machine_steps (n := 71) d_Machine_runFrame_68 rfl kf_Machine_59 ?_
        refine aw_iconst (n := 72) (v := 1) d_Machine_runFrame_71 rfl (by decide) ?_
        refine aw_iadd (n := 73) d_Machine_runFrame_72 rfl ?_
        refine pf_Machine_steps (n := 76) d_Machine_runFrame_73 rfl kf_Machine_59 ?_
        obtain ⟨σ7, eσ7, hJ⟩ := ax_letE hJ
        refine aw_let eσ7 ?_
        refine aw_goto (t := 32) d_Machine_runFrame_76 (by decide) ?_
        refine aw_sub [1, 0] rfl ?_
        exact ih _ _ hJ
set_option maxHeartbeats 1000000 in
theorem c_Machine_runFrame {N : Nat} {g : ax_G} {a1 : Int32} {σ : St} {r9 : Int32} {s9 : St} (hJ : J_Machine_runFrame N a1 σ = some (r9, s9)) : ax_CI μ_Machine_runFrame g y_Machine_runFrame (wC g) [.ref (g.2.1 24), .int a1] σ (ax_eqZ r9 s9) := by
  refine ax_CI.of (plainFor_of_name rfl) rfl (Nat.le_of_ble_eq_true rfl) (fun x A _ => ?_)
  show AW x μ_Machine_runFrame g A (wC g) (0, 0) (ax_QI x μ_Machine_runFrame g A (wC g) (ax_eqZ r9 s9)) 0 [(0, .ref (g.2.1 24)), (1, .int a1)] [] σ
  rw [J_Machine_runFrame] at hJ
  refine aw_aload_n (n := 1) d_Machine_runFrame_0 rfl rfl 0 rfl ?_
  refine gf_Machine_pad (n := 4) d_Machine_runFrame_1 rfl kf_Machine_21 ?_
  refine aw_iload_n (n := 5) d_Machine_runFrame_4 rfl rfl 1 rfl ?_
  obtain ⟨σ1, hc1, hJ⟩ := ax_bindVE hJ
  refine aw_callVv (n := 8) (c_Pad_press hc1) 30 rfl rfl Y_Pad_press km_Machine_62 (by decide) (by decide) rfl rfl (Nat.le_of_ble_eq_true rfl) d_Machine_runFrame_5 rfl (fun s9 hp => ?_)
  subst hp
  refine aw_aload_n (n := 9) d_Machine_runFrame_8 rfl rfl 0 rfl ?_
  refine aw_dup (n := 10) d_Machine_runFrame_9 rfl rfl ?_
  refine gf_Machine_frames (n := 13) d_Machine_runFrame_10 rfl kf_Machine_56 ?_
  refine aw_iconst (n := 14) (v := 1) d_Machine_runFrame_13 rfl (by decide) ?_
  refine aw_iadd (n := 15) d_Machine_runFrame_14 rfl ?_
  refine pf_Machine_frames (n := 18) d_Machine_runFrame_15 rfl kf_Machine_56 ?_
  obtain ⟨σ2, eσ2, hJ⟩ := ax_letE hJ
  refine aw_let eσ2 ?_
  refine aw_aload_n (n := 19) d_Machine_runFrame_18 rfl rfl 0 rfl ?_
  refine gf_Machine_program (n := 22) d_Machine_runFrame_19 rfl kf_Machine_39 ?_
  refine aw_iconst (n := 23) (v := 0) d_Machine_runFrame_22 rfl (by decide) ?_
  obtain ⟨r1, σ3, hc2, hJ⟩ := ax_bindE hJ
  refine aw_callVi (n := 26) (c_Program_skipMarks hc2) 16 rfl rfl Y_Program_skipMarks km_Machine_65 (by decide) (by decide) rfl rfl (Nat.le_of_ble_eq_true rfl) d_Machine_runFrame_23 rfl (fun r9 s9 hp => ?_)
  obtain ⟨rfl, rfl⟩ := hp
  refine aw_istore_n (n := 27) d_Machine_runFrame_26 rfl rfl (by decide) rfl ?_
  refine aw_aload_n (n := 28) d_Machine_runFrame_27 rfl rfl 1 rfl ?_
  refine aw_iconst (n := 29) (v := 0) d_Machine_runFrame_28 rfl (by decide) ?_
  refine pf_Machine_steps (n := 32) d_Machine_runFrame_29 rfl kf_Machine_59 ?_
  obtain ⟨σ4, eσ4, hJ⟩ := ax_letE hJ
  refine aw_let eσ4 ?_
  refine aw_sub [1, 0] rfl ?_
  exact t_Machine_runFrame_32 x A N _ _ hJ
abbrev b_Con_frame : ByteArray := prog_1_method_7_code
def y_Con_frame : MethodName := ⟨"DotConsole", "frame", "(I)I"⟩
theorem d_Con_frame_0 : decode b_Con_frame 0 = .ok (.iload_n 1, 1) := by decide +kernel
theorem d_Con_frame_1 : decode b_Con_frame 1 = .ok (.ifCond .lt 19, 3) := by decide +kernel
theorem d_Con_frame_4 : decode b_Con_frame 4 = .ok (.iload_n 1, 1) := by decide +kernel
theorem d_Con_frame_5 : decode b_Con_frame 5 = .ok (.bipush 63, 2) := by decide +kernel
theorem d_Con_frame_7 : decode b_Con_frame 7 = .ok (.if_icmp .gt 13, 3) := by decide +kernel
theorem d_Con_frame_10 : decode b_Con_frame 10 = .ok (.aload_n 0, 1) := by decide +kernel
theorem d_Con_frame_11 : decode b_Con_frame 11 = .ok (.getfield 35, 3) := by decide +kernel
theorem d_Con_frame_14 : decode b_Con_frame 14 = .ok (.getfield 59, 3) := by decide +kernel
theorem d_Con_frame_17 : decode b_Con_frame 17 = .ok (.ifCond .ne 5, 3) := by decide +kernel
theorem d_Con_frame_20 : decode b_Con_frame 20 = .ok (.iconst (-1), 1) := by decide +kernel
theorem d_Con_frame_21 : decode b_Con_frame 21 = .ok (.ireturn, 1) := by decide +kernel
theorem d_Con_frame_22 : decode b_Con_frame 22 = .ok (.aload_n 0, 1) := by decide +kernel
theorem d_Con_frame_23 : decode b_Con_frame 23 = .ok (.getfield 44, 3) := by decide +kernel
theorem d_Con_frame_26 : decode b_Con_frame 26 = .ok (.iload_n 1, 1) := by decide +kernel
theorem d_Con_frame_27 : decode b_Con_frame 27 = .ok (.invokevirtual 98, 3) := by decide +kernel
theorem d_Con_frame_30 : decode b_Con_frame 30 = .ok (.ifCond .eq 7, 3) := by decide +kernel
theorem d_Con_frame_33 : decode b_Con_frame 33 = .ok (.iconst 0, 1) := by decide +kernel
theorem d_Con_frame_34 : decode b_Con_frame 34 = .ok (.goto 4, 3) := by decide +kernel
theorem d_Con_frame_37 : decode b_Con_frame 37 = .ok (.iconst 1, 1) := by decide +kernel
theorem d_Con_frame_38 : decode b_Con_frame 38 = .ok (.ireturn, 1) := by decide +kernel
def μ_Con_frame : ax_M := (b_Con_frame, 2, "DotConsole", (some .int), 7, 156, 0, 0)
theorem Y_Con_frame : ax_YV μ_Con_frame y_Con_frame 1 := ⟨⟨ax_mem (by decide +kernel) rfl, ax_mem (by decide +kernel) rfl, by decide, by decide, by decide +kernel⟩, ax_mem (by decide +kernel) rfl, ax_mem (by decide +kernel) rfl⟩
theorem kf_Con_44 : Cond.fieldLink "DotConsole" 44 "DotConsole" "machine" "LDotConsole$Machine;" ∈ ax_T := ax_mem (by decide +kernel) rfl
theorem km_Con_98 : Cond.methodLink "DotConsole" 98 ⟨"DotConsole$Machine", "runFrame", "(I)Z"⟩ ∈ ax_T := ax_mem (by decide +kernel) rfl
def J_Con_frame (N : Nat) (a1 : Int32) (σ : St) : Option (Int32 × St) :=
  (if a1 < 0 then
  some ((-1), σ)
  else (if 63 < a1 then
  some ((-1), σ)
  else (if (σ.1 17) = 0 then
  some ((-1), σ)
  else ax_bind (J_Machine_runFrame N a1 σ) (fun r1 σ1 =>
  (if r1 = 0 then
  some (1, σ1)
  else some (0, σ1))))))
set_option maxHeartbeats 1000000 in
theorem c_Con_frame {N : Nat} {g : ax_G} {a1 : Int32} {σ : St} {r9 : Int32} {s9 : St} (hJ : J_Con_frame N a1 σ = some (r9, s9)) : ax_CI μ_Con_frame g y_Con_frame (wC g) [.ref (g.2.1 0), .int a1] σ (ax_eqI r9 s9) := by
  refine ax_CI.of (plainFor_of_name rfl) rfl (Nat.le_of_ble_eq_true rfl) (fun x A _ => ?_)
  show AW x μ_Con_frame g A (wC g) (0, 0) (ax_QI x μ_Con_frame g A (wC g) (ax_eqI r9 s9)) 0 [(0, .ref (g.2.1 0)), (1, .int a1)] [] σ
  rw [J_Con_frame] at hJ
  refine aw_iload_n (n := 1) d_Con_frame_0 rfl rfl 1 rfl ?_
  refine aw_if_lt (n := 4) (t := 20) d_Con_frame_1 rfl (by decide) (fun c1 => ?_) (fun c1 => ?_)
  · rw [if_pos c1] at hJ
    refine aw_iconst (n := 21) (v := -1) d_Con_frame_20 rfl (by decide) ?_
    exact aw_iret d_Con_frame_21 rfl (ax_ret hJ)
  · rw [if_neg c1] at hJ
    refine aw_iload_n (n := 5) d_Con_frame_4 rfl rfl 1 rfl ?_
    refine aw_bipush (n := 7) (v := 63) d_Con_frame_5 rfl (by decide) ?_
    refine aw_icmp_gt (n := 10) (t := 20) d_Con_frame_7 rfl (by decide) (fun c2 => ?_) (fun c2 => ?_)
    · rw [if_pos c2] at hJ
      refine aw_iconst (n := 21) (v := -1) d_Con_frame_20 rfl (by decide) ?_
      exact aw_iret d_Con_frame_21 rfl (ax_ret hJ)
    · rw [if_neg c2] at hJ
      refine aw_aload_n (n := 11) d_Con_frame_10 rfl rfl 0 rfl ?_
      refine gf_Con_program (n := 14) d_Con_frame_11 rfl kf_Con_35 ?_
      refine gf_Program_sealed (n := 17) d_Con_frame_14 rfl kf_Con_59 ?_
      refine aw_if_ne (n := 20) (t := 22) d_Con_frame_17 rfl (by decide) (fun c3 => ?_) (fun c3 => ?_)
      · rw [if_neg c3] at hJ
        refine aw_aload_n (n := 23) d_Con_frame_22 rfl rfl 0 rfl ?_
        refine gf_Con_machine (n := 26) d_Con_frame_23 rfl kf_Con_44 ?_
        refine aw_iload_n (n := 27) d_Con_frame_26 rfl rfl 1 rfl ?_
        obtain ⟨r1, σ1, hc1, hJ⟩ := ax_bindE hJ
        refine aw_callVi (n := 30) (c_Machine_runFrame hc1) 24 rfl rfl Y_Machine_runFrame km_Con_98 (by decide) (by decide) rfl rfl (Nat.le_of_ble_eq_true rfl) d_Con_frame_27 rfl (fun r9 s9 hp => ?_)
        obtain ⟨rfl, rfl, hb1⟩ := hp
        refine aw_if_eq (n := 33) (t := 37) d_Con_frame_30 rfl (by decide) (fun c4 => ?_) (fun c4 => ?_)
        · rw [if_pos c4] at hJ
          refine aw_iconst (n := 38) (v := 1) d_Con_frame_37 rfl (by decide) ?_
          exact aw_iret d_Con_frame_38 rfl (ax_ret hJ)
        · rw [if_neg c4] at hJ
          refine aw_iconst (n := 34) (v := 0) d_Con_frame_33 rfl (by decide) ?_
          refine aw_goto (t := 38) d_Con_frame_34 (by decide) ?_
          exact aw_iret d_Con_frame_38 rfl (ax_ret hJ)
      · rw [if_pos c3] at hJ
        refine aw_iconst (n := 21) (v := -1) d_Con_frame_20 rfl (by decide) ?_
        exact aw_iret d_Con_frame_21 rfl (ax_ret hJ)
def μ_CArrays_fill_25 : ax_M := (b_Arrays_fill, 4, "java/util/Arrays", none, 0, 0, 0, 0)
theorem Y_CArrays_fill_25 : ax_YS μ_CArrays_fill_25 y_Arrays_fill 2 := ⟨⟨ax_mem (by decide +kernel) rfl, ax_mem (by decide +kernel) rfl, by decide, by decide, by decide +kernel⟩, ax_mem (by decide +kernel) rfl⟩
def J_CArrays_fill_25_5 (N : Nat) : Nat → Int32 → Int32 → Int32 → St → Option St
  | 0, _, _, _, _ => none
  | n + 1, l1, l2, l3, σ => (if l3 ≤ l2 then
  some σ
  else (if (inB l2 12) = true then ax_let (sA σ 19 l2.toNatClampNeg l1) (fun σ1 =>
  ax_let ((l2 + 1) : Int32) (fun v1 =>
  J_CArrays_fill_25_5 N n l1 v1 l3 σ1)) else none))
def J_CArrays_fill_25 (N : Nat) (a1 : Int32) (σ : St) : Option St :=
  J_CArrays_fill_25_5 N N a1 0 12 σ
set_option maxHeartbeats 1000000 in
theorem t_CArrays_fill_25_5 {N : Nat} {g : ax_G} {s9 : St} (x : ax_X) (A : Nat → Prop) : ∀ (n : Nat) (l1 : Int32) (l2 : Int32) (l3 : Int32) (σ : St), J_CArrays_fill_25_5 N n l1 l2 l3 σ = some s9 → AW x μ_CArrays_fill_25 g A (wC g) (0, 0) (ax_QV x μ_CArrays_fill_25 g A (wC g) (ax_eqV s9)) 5 [(0, .ref (g.2.1 25)), (1, .int l1), (2, .int l2), (3, .int l3)] [] σ := by
  intro n
  induction n with
  | zero => intro l1 l2 l3 σ hJ; rw [J_CArrays_fill_25_5] at hJ; cases hJ
  | succ n ih =>
    intro l1 l2 l3 σ hJ
    rw [J_CArrays_fill_25_5] at hJ
    refine aw_iload_n (n := 6) d_Arrays_fill_5 rfl rfl 2 rfl ?_
    refine aw_iload_n (n := 7) d_Arrays_fill_6 rfl rfl 3 rfl ?_
    refine aw_icmp_ge (n := 10) (t := 20) d_Arrays_fill_7 rfl (by decide) (fun c1 => ?_) (fun c1 => ?_)
    · rw [if_pos c1] at hJ
      exact aw_vret d_Arrays_fill_20 rfl (ax_retV hJ)
    · rw [if_neg c1] at hJ
      refine aw_aload_n (n := 11) d_Arrays_fill_10 rfl rfl 0 rfl ?_
      refine aw_iload_n (n := 12) d_Arrays_fill_11 rfl rfl 2 rfl ?_
      refine aw_iload_n (n := 13) d_Arrays_fill_12 rfl rfl 1 rfl ?_
      obtain ⟨h1, hJ⟩ := ax_need hJ
      refine as_25 (n := 14) d_Arrays_fill_13 rfl h1 ?_
      obtain ⟨σ1, eσ1, hJ⟩ := ax_letE hJ
      refine aw_let eσ1 ?_
      obtain ⟨v1, ev1, hJ⟩ := ax_letE hJ
      refine aw_iinc (n := 17) (j := 2) (v := v1) d_Arrays_fill_14 rfl rfl (ev1) (by decide) rfl ?_
      refine aw_goto (t := 5) d_Arrays_fill_17 (by decide) ?_
      refine aw_sub [1, 2, 0, 3] rfl ?_
      exact ih _ _ _ _ hJ
set_option maxHeartbeats 1000000 in
theorem c_CArrays_fill_25 {N : Nat} {g : ax_G} {a1 : Int32} {σ : St} {s9 : St} (hJ : J_CArrays_fill_25 N a1 σ = some s9) : ax_CV μ_CArrays_fill_25 g y_Arrays_fill (wC g) [.ref (g.2.1 25), .int a1] σ (ax_eqV s9) := by
  refine ax_CV.of (by decide +kernel) rfl (Nat.le_of_ble_eq_true rfl) (fun x A _ => ?_)
  show AW x μ_CArrays_fill_25 g A (wC g) (0, 0) (ax_QV x μ_CArrays_fill_25 g A (wC g) (ax_eqV s9)) 0 [(0, .ref (g.2.1 25)), (1, .int a1)] [] σ
  rw [J_CArrays_fill_25] at hJ
  refine aw_iconst (n := 1) (v := 0) d_Arrays_fill_0 rfl (by decide) ?_
  refine aw_istore_n (n := 2) d_Arrays_fill_1 rfl rfl (by decide) rfl ?_
  refine aw_aload_n (n := 3) d_Arrays_fill_2 rfl rfl 1 rfl ?_
  refine an_25 (n := 4) d_Arrays_fill_3 rfl ?_
  refine aw_istore_n (n := 5) d_Arrays_fill_4 rfl rfl (by decide) rfl ?_
  refine aw_sub [2, 3, 1, 0] rfl ?_
  exact t_CArrays_fill_25_5 x A N _ _ _ _ hJ
def μ_CArrays_fill_26 : ax_M := (b_Arrays_fill, 4, "java/util/Arrays", none, 0, 0, 0, 0)
theorem Y_CArrays_fill_26 : ax_YS μ_CArrays_fill_26 y_Arrays_fill 2 := ⟨⟨ax_mem (by decide +kernel) rfl, ax_mem (by decide +kernel) rfl, by decide, by decide, by decide +kernel⟩, ax_mem (by decide +kernel) rfl⟩
def J_CArrays_fill_26_5 (N : Nat) : Nat → Int32 → Int32 → Int32 → St → Option St
  | 0, _, _, _, _ => none
  | n + 1, l1, l2, l3, σ => (if l3 ≤ l2 then
  some σ
  else (if (inB l2 32) = true then ax_let (sA σ 20 l2.toNatClampNeg l1) (fun σ1 =>
  ax_let ((l2 + 1) : Int32) (fun v1 =>
  J_CArrays_fill_26_5 N n l1 v1 l3 σ1)) else none))
def J_CArrays_fill_26 (N : Nat) (a1 : Int32) (σ : St) : Option St :=
  J_CArrays_fill_26_5 N N a1 0 32 σ
set_option maxHeartbeats 1000000 in
theorem t_CArrays_fill_26_5 {N : Nat} {g : ax_G} {s9 : St} (x : ax_X) (A : Nat → Prop) : ∀ (n : Nat) (l1 : Int32) (l2 : Int32) (l3 : Int32) (σ : St), J_CArrays_fill_26_5 N n l1 l2 l3 σ = some s9 → AW x μ_CArrays_fill_26 g A (wC g) (0, 0) (ax_QV x μ_CArrays_fill_26 g A (wC g) (ax_eqV s9)) 5 [(0, .ref (g.2.1 26)), (1, .int l1), (2, .int l2), (3, .int l3)] [] σ := by
  intro n
  induction n with
  | zero => intro l1 l2 l3 σ hJ; rw [J_CArrays_fill_26_5] at hJ; cases hJ
  | succ n ih =>
    intro l1 l2 l3 σ hJ
    rw [J_CArrays_fill_26_5] at hJ
    refine aw_iload_n (n := 6) d_Arrays_fill_5 rfl rfl 2 rfl ?_
    refine aw_iload_n (n := 7) d_Arrays_fill_6 rfl rfl 3 rfl ?_
    refine aw_icmp_ge (n := 10) (t := 20) d_Arrays_fill_7 rfl (by decide) (fun c1 => ?_) (fun c1 => ?_)
    · rw [if_pos c1] at hJ
      exact aw_vret d_Arrays_fill_20 rfl (ax_retV hJ)
    · rw [if_neg c1] at hJ
      refine aw_aload_n (n := 11) d_Arrays_fill_10 rfl rfl 0 rfl ?_
      refine aw_iload_n (n := 12) d_Arrays_fill_11 rfl rfl 2 rfl ?_
      refine aw_iload_n (n := 13) d_Arrays_fill_12 rfl rfl 1 rfl ?_
      obtain ⟨h1, hJ⟩ := ax_need hJ
      refine as_26 (n := 14) d_Arrays_fill_13 rfl h1 ?_
      obtain ⟨σ1, eσ1, hJ⟩ := ax_letE hJ
      refine aw_let eσ1 ?_
      obtain ⟨v1, ev1, hJ⟩ := ax_letE hJ
      refine aw_iinc (n := 17) (j := 2) (v := v1) d_Arrays_fill_14 rfl rfl (ev1) (by decide) rfl ?_
      refine aw_goto (t := 5) d_Arrays_fill_17 (by decide) ?_
      refine aw_sub [1, 2, 0, 3] rfl ?_
      exact ih _ _ _ _ hJ
set_option maxHeartbeats 1000000 in
theorem c_CArrays_fill_26 {N : Nat} {g : ax_G} {a1 : Int32} {σ : St} {s9 : St} (hJ : J_CArrays_fill_26 N a1 σ = some s9) : ax_CV μ_CArrays_fill_26 g y_Arrays_fill (wC g) [.ref (g.2.1 26), .int a1] σ (ax_eqV s9) := by
  refine ax_CV.of (by decide +kernel) rfl (Nat.le_of_ble_eq_true rfl) (fun x A _ => ?_)
  show AW x μ_CArrays_fill_26 g A (wC g) (0, 0) (ax_QV x μ_CArrays_fill_26 g A (wC g) (ax_eqV s9)) 0 [(0, .ref (g.2.1 26)), (1, .int a1)] [] σ
  rw [J_CArrays_fill_26] at hJ
  refine aw_iconst (n := 1) (v := 0) d_Arrays_fill_0 rfl (by decide) ?_
  refine aw_istore_n (n := 2) d_Arrays_fill_1 rfl rfl (by decide) rfl ?_
  refine aw_aload_n (n := 3) d_Arrays_fill_2 rfl rfl 1 rfl ?_
  refine an_26 (n := 4) d_Arrays_fill_3 rfl ?_
  refine aw_istore_n (n := 5) d_Arrays_fill_4 rfl rfl (by decide) rfl ?_
  refine aw_sub [2, 3, 1, 0] rfl ?_
  exact t_CArrays_fill_26_5 x A N _ _ _ _ hJ
def μ_CArrays_fill_31 : ax_M := (b_Arrays_fill, 4, "java/util/Arrays", none, 0, 0, 0, 0)
theorem Y_CArrays_fill_31 : ax_YS μ_CArrays_fill_31 y_Arrays_fill 2 := ⟨⟨ax_mem (by decide +kernel) rfl, ax_mem (by decide +kernel) rfl, by decide, by decide, by decide +kernel⟩, ax_mem (by decide +kernel) rfl⟩
def J_CArrays_fill_31_5 (N : Nat) : Nat → Int32 → Int32 → Int32 → St → Option St
  | 0, _, _, _, _ => none
  | n + 1, l1, l2, l3, σ => (if l3 ≤ l2 then
  some σ
  else (if (inB l2 6) = true then ax_let (sA σ 23 l2.toNatClampNeg l1) (fun σ1 =>
  ax_let ((l2 + 1) : Int32) (fun v1 =>
  J_CArrays_fill_31_5 N n l1 v1 l3 σ1)) else none))
def J_CArrays_fill_31 (N : Nat) (a1 : Int32) (σ : St) : Option St :=
  J_CArrays_fill_31_5 N N a1 0 6 σ
set_option maxHeartbeats 1000000 in
theorem t_CArrays_fill_31_5 {N : Nat} {g : ax_G} {s9 : St} (x : ax_X) (A : Nat → Prop) : ∀ (n : Nat) (l1 : Int32) (l2 : Int32) (l3 : Int32) (σ : St), J_CArrays_fill_31_5 N n l1 l2 l3 σ = some s9 → AW x μ_CArrays_fill_31 g A (wC g) (0, 0) (ax_QV x μ_CArrays_fill_31 g A (wC g) (ax_eqV s9)) 5 [(0, .ref (g.2.1 31)), (1, .int l1), (2, .int l2), (3, .int l3)] [] σ := by
  intro n
  induction n with
  | zero => intro l1 l2 l3 σ hJ; rw [J_CArrays_fill_31_5] at hJ; cases hJ
  | succ n ih =>
    intro l1 l2 l3 σ hJ
    rw [J_CArrays_fill_31_5] at hJ
    refine aw_iload_n (n := 6) d_Arrays_fill_5 rfl rfl 2 rfl ?_
    refine aw_iload_n (n := 7) d_Arrays_fill_6 rfl rfl 3 rfl ?_
    refine aw_icmp_ge (n := 10) (t := 20) d_Arrays_fill_7 rfl (by decide) (fun c1 => ?_) (fun c1 => ?_)
    · rw [if_pos c1] at hJ
      exact aw_vret d_Arrays_fill_20 rfl (ax_retV hJ)
    · rw [if_neg c1] at hJ
      refine aw_aload_n (n := 11) d_Arrays_fill_10 rfl rfl 0 rfl ?_
      refine aw_iload_n (n := 12) d_Arrays_fill_11 rfl rfl 2 rfl ?_
      refine aw_iload_n (n := 13) d_Arrays_fill_12 rfl rfl 1 rfl ?_
      obtain ⟨h1, hJ⟩ := ax_need hJ
      refine as_31 (n := 14) d_Arrays_fill_13 rfl h1 ?_
      obtain ⟨σ1, eσ1, hJ⟩ := ax_letE hJ
      refine aw_let eσ1 ?_
      obtain ⟨v1, ev1, hJ⟩ := ax_letE hJ
      refine aw_iinc (n := 17) (j := 2) (v := v1) d_Arrays_fill_14 rfl rfl (ev1) (by decide) rfl ?_
      refine aw_goto (t := 5) d_Arrays_fill_17 (by decide) ?_
      refine aw_sub [1, 2, 0, 3] rfl ?_
      exact ih _ _ _ _ hJ
set_option maxHeartbeats 1000000 in
theorem c_CArrays_fill_31 {N : Nat} {g : ax_G} {a1 : Int32} {σ : St} {s9 : St} (hJ : J_CArrays_fill_31 N a1 σ = some s9) : ax_CV μ_CArrays_fill_31 g y_Arrays_fill (wC g) [.ref (g.2.1 31), .int a1] σ (ax_eqV s9) := by
  refine ax_CV.of (by decide +kernel) rfl (Nat.le_of_ble_eq_true rfl) (fun x A _ => ?_)
  show AW x μ_CArrays_fill_31 g A (wC g) (0, 0) (ax_QV x μ_CArrays_fill_31 g A (wC g) (ax_eqV s9)) 0 [(0, .ref (g.2.1 31)), (1, .int a1)] [] σ
  rw [J_CArrays_fill_31] at hJ
  refine aw_iconst (n := 1) (v := 0) d_Arrays_fill_0 rfl (by decide) ?_
  refine aw_istore_n (n := 2) d_Arrays_fill_1 rfl rfl (by decide) rfl ?_
  refine aw_aload_n (n := 3) d_Arrays_fill_2 rfl rfl 1 rfl ?_
  refine an_31 (n := 4) d_Arrays_fill_3 rfl ?_
  refine aw_istore_n (n := 5) d_Arrays_fill_4 rfl rfl (by decide) rfl ?_
  refine aw_sub [2, 3, 1, 0] rfl ?_
  exact t_CArrays_fill_31_5 x A N _ _ _ _ hJ
abbrev b_Pad_release : ByteArray := prog_5_method_2_code
def y_Pad_release : MethodName := ⟨"DotConsole$Pad", "release", "()V"⟩
theorem d_Pad_release_0 : decode b_Pad_release 0 = .ok (.aload_n 0, 1) := by decide +kernel
theorem d_Pad_release_1 : decode b_Pad_release 1 = .ok (.getfield 9, 3) := by decide +kernel
theorem d_Pad_release_4 : decode b_Pad_release 4 = .ok (.iconst 0, 1) := by decide +kernel
theorem d_Pad_release_5 : decode b_Pad_release 5 = .ok (.invokestatic 15, 3) := by decide +kernel
theorem d_Pad_release_8 : decode b_Pad_release 8 = .ok (.return_, 1) := by decide +kernel
def μ_Pad_release : ax_M := (b_Pad_release, 1, "DotConsole$Pad", none, 1, 23, 0, 0)
theorem Y_Pad_release : ax_YV μ_Pad_release y_Pad_release 0 := ⟨⟨ax_mem (by decide +kernel) rfl, ax_mem (by decide +kernel) rfl, by decide, by decide, by decide +kernel⟩, ax_mem (by decide +kernel) rfl, ax_mem (by decide +kernel) rfl⟩
theorem km_Pad_15 : Cond.methodLink "DotConsole$Pad" 15 ⟨"java/util/Arrays", "fill", "([II)V"⟩ ∈ ax_T := ax_mem (by decide +kernel) rfl
def J_Pad_release (N : Nat) (σ : St) : Option St :=
  ax_bindV (J_CArrays_fill_31 N 0 σ) (fun σ1 =>
  some σ1)
set_option maxHeartbeats 1000000 in
theorem c_Pad_release {N : Nat} {g : ax_G} {σ : St} {s9 : St} (hJ : J_Pad_release N σ = some s9) : ax_CV μ_Pad_release g y_Pad_release (wC g) [.ref (g.2.1 30)] σ (ax_eqV s9) := by
  refine ax_CV.of (plainFor_of_name rfl) rfl (Nat.le_of_ble_eq_true rfl) (fun x A _ => ?_)
  show AW x μ_Pad_release g A (wC g) (0, 0) (ax_QV x μ_Pad_release g A (wC g) (ax_eqV s9)) 0 [(0, .ref (g.2.1 30))] [] σ
  rw [J_Pad_release] at hJ
  refine aw_aload_n (n := 1) d_Pad_release_0 rfl rfl 0 rfl ?_
  refine gf_Pad_framesDown (n := 4) d_Pad_release_1 rfl kf_Pad_9 ?_
  refine aw_iconst (n := 5) (v := 0) d_Pad_release_4 rfl (by decide) ?_
  obtain ⟨σ1, hc1, hJ⟩ := ax_bindVE hJ
  refine aw_callSv (n := 8) (c_CArrays_fill_31 hc1) Y_CArrays_fill_31 km_Pad_15 (by decide) (by decide) rfl rfl (Nat.le_of_ble_eq_true rfl) d_Pad_release_5 rfl (fun s9 hp => ?_)
  subst hp
  exact aw_vret d_Pad_release_8 rfl (ax_retV hJ)
abbrev b_Machine_reset : ByteArray := prog_3_method_2_code
def y_Machine_reset : MethodName := ⟨"DotConsole$Machine", "reset", "()V"⟩
theorem d_Machine_reset_0 : decode b_Machine_reset 0 = .ok (.aload_n 0, 1) := by decide +kernel
theorem d_Machine_reset_1 : decode b_Machine_reset 1 = .ok (.getfield 25, 3) := by decide +kernel
theorem d_Machine_reset_4 : decode b_Machine_reset 4 = .ok (.iconst 0, 1) := by decide +kernel
theorem d_Machine_reset_5 : decode b_Machine_reset 5 = .ok (.invokestatic 43, 3) := by decide +kernel
theorem d_Machine_reset_8 : decode b_Machine_reset 8 = .ok (.aload_n 0, 1) := by decide +kernel
theorem d_Machine_reset_9 : decode b_Machine_reset 9 = .ok (.getfield 29, 3) := by decide +kernel
theorem d_Machine_reset_12 : decode b_Machine_reset 12 = .ok (.iconst 0, 1) := by decide +kernel
theorem d_Machine_reset_13 : decode b_Machine_reset 13 = .ok (.invokestatic 43, 3) := by decide +kernel
theorem d_Machine_reset_16 : decode b_Machine_reset 16 = .ok (.aload_n 0, 1) := by decide +kernel
theorem d_Machine_reset_17 : decode b_Machine_reset 17 = .ok (.getfield 12, 3) := by decide +kernel
theorem d_Machine_reset_20 : decode b_Machine_reset 20 = .ok (.iconst 0, 1) := by decide +kernel
theorem d_Machine_reset_21 : decode b_Machine_reset 21 = .ok (.invokevirtual 49, 3) := by decide +kernel
theorem d_Machine_reset_24 : decode b_Machine_reset 24 = .ok (.aload_n 0, 1) := by decide +kernel
theorem d_Machine_reset_25 : decode b_Machine_reset 25 = .ok (.getfield 21, 3) := by decide +kernel
theorem d_Machine_reset_28 : decode b_Machine_reset 28 = .ok (.invokevirtual 53, 3) := by decide +kernel
theorem d_Machine_reset_31 : decode b_Machine_reset 31 = .ok (.aload_n 0, 1) := by decide +kernel
theorem d_Machine_reset_32 : decode b_Machine_reset 32 = .ok (.iconst 1, 1) := by decide +kernel
theorem d_Machine_reset_33 : decode b_Machine_reset 33 = .ok (.putfield 32, 3) := by decide +kernel
theorem d_Machine_reset_36 : decode b_Machine_reset 36 = .ok (.aload_n 0, 1) := by decide +kernel
theorem d_Machine_reset_37 : decode b_Machine_reset 37 = .ok (.iconst 0, 1) := by decide +kernel
theorem d_Machine_reset_38 : decode b_Machine_reset 38 = .ok (.putfield 56, 3) := by decide +kernel
theorem d_Machine_reset_41 : decode b_Machine_reset 41 = .ok (.aload_n 0, 1) := by decide +kernel
theorem d_Machine_reset_42 : decode b_Machine_reset 42 = .ok (.iconst 0, 1) := by decide +kernel
theorem d_Machine_reset_43 : decode b_Machine_reset 43 = .ok (.putfield 59, 3) := by decide +kernel
theorem d_Machine_reset_46 : decode b_Machine_reset 46 = .ok (.return_, 1) := by decide +kernel
def μ_Machine_reset : ax_M := (b_Machine_reset, 1, "DotConsole$Machine", none, 2, 44, 0, 0)
theorem Y_Machine_reset : ax_YV μ_Machine_reset y_Machine_reset 0 := ⟨⟨ax_mem (by decide +kernel) rfl, ax_mem (by decide +kernel) rfl, by decide, by decide, by decide +kernel⟩, ax_mem (by decide +kernel) rfl, ax_mem (by decide +kernel) rfl⟩
theorem km_Machine_43 : Cond.methodLink "DotConsole$Machine" 43 ⟨"java/util/Arrays", "fill", "([II)V"⟩ ∈ ax_T := ax_mem (by decide +kernel) rfl
theorem km_Machine_53 : Cond.methodLink "DotConsole$Machine" 53 ⟨"DotConsole$Pad", "release", "()V"⟩ ∈ ax_T := ax_mem (by decide +kernel) rfl
def J_Machine_reset (N : Nat) (σ : St) : Option St :=
  ax_bindV (J_CArrays_fill_25 N 0 σ) (fun σ1 =>
  ax_bindV (J_CArrays_fill_26 N 0 σ1) (fun σ2 =>
  ax_bindV (J_Screen_paintAll N 0 σ2) (fun σ3 =>
  ax_bindV (J_Pad_release N σ3) (fun σ4 =>
  ax_let (sF σ4 19 1) (fun σ5 =>
  ax_let (sF σ5 20 0) (fun σ6 =>
  ax_let (sF σ6 21 0) (fun σ7 =>
  some σ7)))))))
set_option maxHeartbeats 1000000 in
theorem c_Machine_reset {N : Nat} {g : ax_G} {σ : St} {s9 : St} (hJ : J_Machine_reset N σ = some s9) : ax_CV μ_Machine_reset g y_Machine_reset (wC g) [.ref (g.2.1 24)] σ (ax_eqV s9) := by
  refine ax_CV.of (plainFor_of_name rfl) rfl (Nat.le_of_ble_eq_true rfl) (fun x A _ => ?_)
  show AW x μ_Machine_reset g A (wC g) (0, 0) (ax_QV x μ_Machine_reset g A (wC g) (ax_eqV s9)) 0 [(0, .ref (g.2.1 24))] [] σ
  rw [J_Machine_reset] at hJ
  refine aw_aload_n (n := 1) d_Machine_reset_0 rfl rfl 0 rfl ?_
  refine gf_Machine_values (n := 4) d_Machine_reset_1 rfl kf_Machine_25 ?_
  refine aw_iconst (n := 5) (v := 0) d_Machine_reset_4 rfl (by decide) ?_
  obtain ⟨σ1, hc1, hJ⟩ := ax_bindVE hJ
  refine aw_callSv (n := 8) (c_CArrays_fill_25 hc1) Y_CArrays_fill_25 km_Machine_43 (by decide) (by decide) rfl rfl (Nat.le_of_ble_eq_true rfl) d_Machine_reset_5 rfl (fun s9 hp => ?_)
  subst hp
  refine aw_aload_n (n := 9) d_Machine_reset_8 rfl rfl 0 rfl ?_
  refine gf_Machine_cells (n := 12) d_Machine_reset_9 rfl kf_Machine_29 ?_
  refine aw_iconst (n := 13) (v := 0) d_Machine_reset_12 rfl (by decide) ?_
  obtain ⟨σ2, hc2, hJ⟩ := ax_bindVE hJ
  refine aw_callSv (n := 16) (c_CArrays_fill_26 hc2) Y_CArrays_fill_26 km_Machine_43 (by decide) (by decide) rfl rfl (Nat.le_of_ble_eq_true rfl) d_Machine_reset_13 rfl (fun s9 hp => ?_)
  subst hp
  refine aw_aload_n (n := 17) d_Machine_reset_16 rfl rfl 0 rfl ?_
  refine gf_Machine_screen (n := 20) d_Machine_reset_17 rfl kf_Machine_12 ?_
  refine aw_iconst (n := 21) (v := 0) d_Machine_reset_20 rfl (by decide) ?_
  obtain ⟨σ3, hc3, hJ⟩ := ax_bindVE hJ
  refine aw_callVv (n := 24) (c_Screen_paintAll hc3) 28 rfl rfl Y_Screen_paintAll km_Machine_49 (by decide) (by decide) rfl rfl (Nat.le_of_ble_eq_true rfl) d_Machine_reset_21 rfl (fun s9 hp => ?_)
  subst hp
  refine aw_aload_n (n := 25) d_Machine_reset_24 rfl rfl 0 rfl ?_
  refine gf_Machine_pad (n := 28) d_Machine_reset_25 rfl kf_Machine_21 ?_
  obtain ⟨σ4, hc4, hJ⟩ := ax_bindVE hJ
  refine aw_callVv (n := 31) (c_Pad_release hc4) 30 rfl rfl Y_Pad_release km_Machine_53 (by decide) (by decide) rfl rfl (Nat.le_of_ble_eq_true rfl) d_Machine_reset_28 rfl (fun s9 hp => ?_)
  subst hp
  refine aw_aload_n (n := 32) d_Machine_reset_31 rfl rfl 0 rfl ?_
  refine aw_iconst (n := 33) (v := 1) d_Machine_reset_32 rfl (by decide) ?_
  refine pf_Machine_seed (n := 36) d_Machine_reset_33 rfl kf_Machine_32 ?_
  obtain ⟨σ5, eσ5, hJ⟩ := ax_letE hJ
  refine aw_let eσ5 ?_
  refine aw_aload_n (n := 37) d_Machine_reset_36 rfl rfl 0 rfl ?_
  refine aw_iconst (n := 38) (v := 0) d_Machine_reset_37 rfl (by decide) ?_
  refine pf_Machine_frames (n := 41) d_Machine_reset_38 rfl kf_Machine_56 ?_
  obtain ⟨σ6, eσ6, hJ⟩ := ax_letE hJ
  refine aw_let eσ6 ?_
  refine aw_aload_n (n := 42) d_Machine_reset_41 rfl rfl 0 rfl ?_
  refine aw_iconst (n := 43) (v := 0) d_Machine_reset_42 rfl (by decide) ?_
  refine pf_Machine_steps (n := 46) d_Machine_reset_43 rfl kf_Machine_59 ?_
  obtain ⟨σ7, eσ7, hJ⟩ := ax_letE hJ
  refine aw_let eσ7 ?_
  exact aw_vret d_Machine_reset_46 rfl (ax_retV hJ)
abbrev b_Con_restart : ByteArray := prog_1_method_8_code
def y_Con_restart : MethodName := ⟨"DotConsole", "restart", "()I"⟩
theorem d_Con_restart_0 : decode b_Con_restart 0 = .ok (.aload_n 0, 1) := by decide +kernel
theorem d_Con_restart_1 : decode b_Con_restart 1 = .ok (.getfield 44, 3) := by decide +kernel
theorem d_Con_restart_4 : decode b_Con_restart 4 = .ok (.invokevirtual 102, 3) := by decide +kernel
theorem d_Con_restart_7 : decode b_Con_restart 7 = .ok (.iconst 0, 1) := by decide +kernel
theorem d_Con_restart_8 : decode b_Con_restart 8 = .ok (.ireturn, 1) := by decide +kernel
def μ_Con_restart : ax_M := (b_Con_restart, 1, "DotConsole", (some .int), 3, 64, 0, 0)
theorem Y_Con_restart : ax_YV μ_Con_restart y_Con_restart 0 := ⟨⟨ax_mem (by decide +kernel) rfl, ax_mem (by decide +kernel) rfl, by decide, by decide, by decide +kernel⟩, ax_mem (by decide +kernel) rfl, ax_mem (by decide +kernel) rfl⟩
theorem km_Con_102 : Cond.methodLink "DotConsole" 102 ⟨"DotConsole$Machine", "reset", "()V"⟩ ∈ ax_T := ax_mem (by decide +kernel) rfl
def J_Con_restart (N : Nat) (σ : St) : Option (Int32 × St) :=
  ax_bindV (J_Machine_reset N σ) (fun σ1 =>
  some (0, σ1))
set_option maxHeartbeats 1000000 in
theorem c_Con_restart {N : Nat} {g : ax_G} {σ : St} {r9 : Int32} {s9 : St} (hJ : J_Con_restart N σ = some (r9, s9)) : ax_CI μ_Con_restart g y_Con_restart (wC g) [.ref (g.2.1 0)] σ (ax_eqI r9 s9) := by
  refine ax_CI.of (plainFor_of_name rfl) rfl (Nat.le_of_ble_eq_true rfl) (fun x A _ => ?_)
  show AW x μ_Con_restart g A (wC g) (0, 0) (ax_QI x μ_Con_restart g A (wC g) (ax_eqI r9 s9)) 0 [(0, .ref (g.2.1 0))] [] σ
  rw [J_Con_restart] at hJ
  refine aw_aload_n (n := 1) d_Con_restart_0 rfl rfl 0 rfl ?_
  refine gf_Con_machine (n := 4) d_Con_restart_1 rfl kf_Con_44 ?_
  obtain ⟨σ1, hc1, hJ⟩ := ax_bindVE hJ
  refine aw_callVv (n := 7) (c_Machine_reset hc1) 24 rfl rfl Y_Machine_reset km_Con_102 (by decide) (by decide) rfl rfl (Nat.le_of_ble_eq_true rfl) d_Con_restart_4 rfl (fun s9 hp => ?_)
  subst hp
  refine aw_iconst (n := 8) (v := 0) d_Con_restart_7 rfl (by decide) ?_
  exact aw_iret d_Con_restart_8 rfl (ax_ret hJ)
abbrev b_Con_dot : ByteArray := prog_1_method_9_code
def y_Con_dot : MethodName := ⟨"DotConsole", "dot", "(II)I"⟩
theorem d_Con_dot_0 : decode b_Con_dot 0 = .ok (.iload_n 1, 1) := by decide +kernel
theorem d_Con_dot_1 : decode b_Con_dot 1 = .ok (.iload_n 2, 1) := by decide +kernel
theorem d_Con_dot_2 : decode b_Con_dot 2 = .ok (.invokestatic 105, 3) := by decide +kernel
theorem d_Con_dot_5 : decode b_Con_dot 5 = .ok (.ifCond .eq 18, 3) := by decide +kernel
theorem d_Con_dot_8 : decode b_Con_dot 8 = .ok (.aload_n 0, 1) := by decide +kernel
theorem d_Con_dot_9 : decode b_Con_dot 9 = .ok (.getfield 44, 3) := by decide +kernel
theorem d_Con_dot_12 : decode b_Con_dot 12 = .ok (.getfield 111, 3) := by decide +kernel
theorem d_Con_dot_15 : decode b_Con_dot 15 = .ok (.iload_n 1, 1) := by decide +kernel
theorem d_Con_dot_16 : decode b_Con_dot 16 = .ok (.iload_n 2, 1) := by decide +kernel
theorem d_Con_dot_17 : decode b_Con_dot 17 = .ok (.invokevirtual 115, 3) := by decide +kernel
theorem d_Con_dot_20 : decode b_Con_dot 20 = .ok (.goto 4, 3) := by decide +kernel
theorem d_Con_dot_23 : decode b_Con_dot 23 = .ok (.iconst (-1), 1) := by decide +kernel
theorem d_Con_dot_24 : decode b_Con_dot 24 = .ok (.ireturn, 1) := by decide +kernel
def μ_Con_dot : ax_M := (b_Con_dot, 3, "DotConsole", (some .int), 2, 43, 0, 0)
theorem Y_Con_dot : ax_YV μ_Con_dot y_Con_dot 2 := ⟨⟨ax_mem (by decide +kernel) rfl, ax_mem (by decide +kernel) rfl, by decide, by decide, by decide +kernel⟩, ax_mem (by decide +kernel) rfl, ax_mem (by decide +kernel) rfl⟩
theorem km_Con_105 : Cond.methodLink "DotConsole" 105 ⟨"DotConsole$Screen", "isInside", "(II)Z"⟩ ∈ ax_T := ax_mem (by decide +kernel) rfl
theorem kf_Con_111 : Cond.fieldLink "DotConsole" 111 "DotConsole$Machine" "screen" "LDotConsole$Screen;" ∈ ax_T := ax_mem (by decide +kernel) rfl
theorem km_Con_115 : Cond.methodLink "DotConsole" 115 ⟨"DotConsole$Screen", "colourAt", "(II)I"⟩ ∈ ax_T := ax_mem (by decide +kernel) rfl
def J_Con_dot (N : Nat) (a1 : Int32) (a2 : Int32) (σ : St) : Option (Int32 × St) :=
  ax_bind (J_Screen_isInside N a1 a2 σ) (fun r1 σ1 =>
  (if r1 = 0 then
  some ((-1), σ1)
  else ax_bind (J_Screen_colourAt N a1 a2 σ1) (fun r2 σ2 =>
  some (r2, σ2))))
set_option maxHeartbeats 1000000 in
theorem c_Con_dot {N : Nat} {g : ax_G} {a1 : Int32} {a2 : Int32} {σ : St} {r9 : Int32} {s9 : St} (hJ : J_Con_dot N a1 a2 σ = some (r9, s9)) : ax_CI μ_Con_dot g y_Con_dot (wC g) [.ref (g.2.1 0), .int a1, .int a2] σ (ax_eqI r9 s9) := by
  refine ax_CI.of (plainFor_of_name rfl) rfl (Nat.le_of_ble_eq_true rfl) (fun x A _ => ?_)
  show AW x μ_Con_dot g A (wC g) (0, 0) (ax_QI x μ_Con_dot g A (wC g) (ax_eqI r9 s9)) 0 [(0, .ref (g.2.1 0)), (1, .int a1), (2, .int a2)] [] σ
  rw [J_Con_dot] at hJ
  refine aw_iload_n (n := 1) d_Con_dot_0 rfl rfl 1 rfl ?_
  refine aw_iload_n (n := 2) d_Con_dot_1 rfl rfl 2 rfl ?_
  obtain ⟨r1, σ1, hc1, hJ⟩ := ax_bindE hJ
  refine aw_callSi (n := 5) (c_Screen_isInside hc1) Y_Screen_isInside km_Con_105 (by decide) (by decide) rfl rfl (Nat.le_of_ble_eq_true rfl) d_Con_dot_2 rfl (fun r9 s9 hp => ?_)
  obtain ⟨rfl, rfl, hb1⟩ := hp
  refine aw_if_eq (n := 8) (t := 23) d_Con_dot_5 rfl (by decide) (fun c1 => ?_) (fun c1 => ?_)
  · rw [if_pos c1] at hJ
    refine aw_iconst (n := 24) (v := -1) d_Con_dot_23 rfl (by decide) ?_
    exact aw_iret d_Con_dot_24 rfl (ax_ret hJ)
  · rw [if_neg c1] at hJ
    refine aw_aload_n (n := 9) d_Con_dot_8 rfl rfl 0 rfl ?_
    refine gf_Con_machine (n := 12) d_Con_dot_9 rfl kf_Con_44 ?_
    refine gf_Machine_screen (n := 15) d_Con_dot_12 rfl kf_Con_111 ?_
    refine aw_iload_n (n := 16) d_Con_dot_15 rfl rfl 1 rfl ?_
    refine aw_iload_n (n := 17) d_Con_dot_16 rfl rfl 2 rfl ?_
    obtain ⟨r2, σ2, hc2, hJ⟩ := ax_bindE hJ
    refine aw_callVi (n := 20) (c_Screen_colourAt hc2) 28 rfl rfl Y_Screen_colourAt km_Con_115 (by decide) (by decide) rfl rfl (Nat.le_of_ble_eq_true rfl) d_Con_dot_17 rfl (fun r9 s9 hp => ?_)
    obtain ⟨rfl, rfl⟩ := hp
    refine aw_goto (t := 24) d_Con_dot_20 (by decide) ?_
    exact aw_iret d_Con_dot_24 rfl (ax_ret hJ)
abbrev b_Con_value : ByteArray := prog_1_method_10_code
def y_Con_value : MethodName := ⟨"DotConsole", "value", "(I)I"⟩
theorem d_Con_value_0 : decode b_Con_value 0 = .ok (.iload_n 1, 1) := by decide +kernel
theorem d_Con_value_1 : decode b_Con_value 1 = .ok (.ifCond .lt 26, 3) := by decide +kernel
theorem d_Con_value_4 : decode b_Con_value 4 = .ok (.iload_n 1, 1) := by decide +kernel
theorem d_Con_value_5 : decode b_Con_value 5 = .ok (.aload_n 0, 1) := by decide +kernel
theorem d_Con_value_6 : decode b_Con_value 6 = .ok (.getfield 19, 3) := by decide +kernel
theorem d_Con_value_9 : decode b_Con_value 9 = .ok (.getfield 119, 3) := by decide +kernel
theorem d_Con_value_12 : decode b_Con_value 12 = .ok (.if_icmp .ge 15, 3) := by decide +kernel
theorem d_Con_value_15 : decode b_Con_value 15 = .ok (.aload_n 0, 1) := by decide +kernel
theorem d_Con_value_16 : decode b_Con_value 16 = .ok (.getfield 44, 3) := by decide +kernel
theorem d_Con_value_19 : decode b_Con_value 19 = .ok (.getfield 122, 3) := by decide +kernel
theorem d_Con_value_22 : decode b_Con_value 22 = .ok (.iload_n 1, 1) := by decide +kernel
theorem d_Con_value_23 : decode b_Con_value 23 = .ok (.iaload, 1) := by decide +kernel
theorem d_Con_value_24 : decode b_Con_value 24 = .ok (.goto 4, 3) := by decide +kernel
theorem d_Con_value_27 : decode b_Con_value 27 = .ok (.iconst 0, 1) := by decide +kernel
theorem d_Con_value_28 : decode b_Con_value 28 = .ok (.ireturn, 1) := by decide +kernel
def μ_Con_value : ax_M := (b_Con_value, 2, "DotConsole", (some .int), 0, 0, 0, 0)
theorem Y_Con_value : ax_YV μ_Con_value y_Con_value 1 := ⟨⟨ax_mem (by decide +kernel) rfl, ax_mem (by decide +kernel) rfl, by decide, by decide, by decide +kernel⟩, ax_mem (by decide +kernel) rfl, ax_mem (by decide +kernel) rfl⟩
theorem kf_Con_119 : Cond.fieldLink "DotConsole" 119 "DotConsole$Names" "kept" "I" ∈ ax_T := ax_mem (by decide +kernel) rfl
theorem kf_Con_122 : Cond.fieldLink "DotConsole" 122 "DotConsole$Machine" "values" "[I" ∈ ax_T := ax_mem (by decide +kernel) rfl
def J_Con_value (N : Nat) (a1 : Int32) (σ : St) : Option (Int32 × St) :=
  (if a1 < 0 then
  some (0, σ)
  else (if (σ.1 4) ≤ a1 then
  some (0, σ)
  else (if (inB a1 12) = true then some ((σ.2 19 a1.toNatClampNeg), σ) else none)))
set_option maxHeartbeats 1000000 in
theorem c_Con_value {N : Nat} {g : ax_G} {a1 : Int32} {σ : St} {r9 : Int32} {s9 : St} (hJ : J_Con_value N a1 σ = some (r9, s9)) : ax_CI μ_Con_value g y_Con_value (wC g) [.ref (g.2.1 0), .int a1] σ (ax_eqI r9 s9) := by
  refine ax_CI.of (plainFor_of_name rfl) rfl (Nat.le_of_ble_eq_true rfl) (fun x A _ => ?_)
  show AW x μ_Con_value g A (wC g) (0, 0) (ax_QI x μ_Con_value g A (wC g) (ax_eqI r9 s9)) 0 [(0, .ref (g.2.1 0)), (1, .int a1)] [] σ
  rw [J_Con_value] at hJ
  refine aw_iload_n (n := 1) d_Con_value_0 rfl rfl 1 rfl ?_
  refine aw_if_lt (n := 4) (t := 27) d_Con_value_1 rfl (by decide) (fun c1 => ?_) (fun c1 => ?_)
  · rw [if_pos c1] at hJ
    refine aw_iconst (n := 28) (v := 0) d_Con_value_27 rfl (by decide) ?_
    exact aw_iret d_Con_value_28 rfl (ax_ret hJ)
  · rw [if_neg c1] at hJ
    refine aw_iload_n (n := 5) d_Con_value_4 rfl rfl 1 rfl ?_
    refine aw_aload_n (n := 6) d_Con_value_5 rfl rfl 0 rfl ?_
    refine gf_Con_names (n := 9) d_Con_value_6 rfl kf_Con_19 ?_
    refine gf_Names_kept (n := 12) d_Con_value_9 rfl kf_Con_119 ?_
    refine aw_icmp_ge (n := 15) (t := 27) d_Con_value_12 rfl (by decide) (fun c2 => ?_) (fun c2 => ?_)
    · rw [if_pos c2] at hJ
      refine aw_iconst (n := 28) (v := 0) d_Con_value_27 rfl (by decide) ?_
      exact aw_iret d_Con_value_28 rfl (ax_ret hJ)
    · rw [if_neg c2] at hJ
      refine aw_aload_n (n := 16) d_Con_value_15 rfl rfl 0 rfl ?_
      refine gf_Con_machine (n := 19) d_Con_value_16 rfl kf_Con_44 ?_
      refine gf_Machine_values (n := 22) d_Con_value_19 rfl kf_Con_122 ?_
      refine aw_iload_n (n := 23) d_Con_value_22 rfl rfl 1 rfl ?_
      obtain ⟨h1, hJ⟩ := ax_need hJ
      refine al_25 (n := 24) d_Con_value_23 rfl h1 ?_
      refine aw_goto (t := 28) d_Con_value_24 (by decide) ?_
      exact aw_iret d_Con_value_28 rfl (ax_ret hJ)
abbrev b_Names_letterAt : ByteArray := prog_4_method_5_code
def y_Names_letterAt : MethodName := ⟨"DotConsole$Names", "letterAt", "(II)I"⟩
theorem d_Names_letterAt_0 : decode b_Names_letterAt 0 = .ok (.iload_n 1, 1) := by decide +kernel
theorem d_Names_letterAt_1 : decode b_Names_letterAt 1 = .ok (.ifCond .lt 21, 3) := by decide +kernel
theorem d_Names_letterAt_4 : decode b_Names_letterAt 4 = .ok (.iload_n 1, 1) := by decide +kernel
theorem d_Names_letterAt_5 : decode b_Names_letterAt 5 = .ok (.aload_n 0, 1) := by decide +kernel
theorem d_Names_letterAt_6 : decode b_Names_letterAt 6 = .ok (.getfield 15, 3) := by decide +kernel
theorem d_Names_letterAt_9 : decode b_Names_letterAt 9 = .ok (.if_icmp .ge 13, 3) := by decide +kernel
theorem d_Names_letterAt_12 : decode b_Names_letterAt 12 = .ok (.iload_n 2, 1) := by decide +kernel
theorem d_Names_letterAt_13 : decode b_Names_letterAt 13 = .ok (.ifCond .lt 9, 3) := by decide +kernel
theorem d_Names_letterAt_16 : decode b_Names_letterAt 16 = .ok (.iload_n 2, 1) := by decide +kernel
theorem d_Names_letterAt_17 : decode b_Names_letterAt 17 = .ok (.bipush 6, 2) := by decide +kernel
theorem d_Names_letterAt_19 : decode b_Names_letterAt 19 = .ok (.if_icmp .lt 5, 3) := by decide +kernel
theorem d_Names_letterAt_22 : decode b_Names_letterAt 22 = .ok (.iconst (-1), 1) := by decide +kernel
theorem d_Names_letterAt_23 : decode b_Names_letterAt 23 = .ok (.ireturn, 1) := by decide +kernel
theorem d_Names_letterAt_24 : decode b_Names_letterAt 24 = .ok (.aload_n 0, 1) := by decide +kernel
theorem d_Names_letterAt_25 : decode b_Names_letterAt 25 = .ok (.getfield 9, 3) := by decide +kernel
theorem d_Names_letterAt_28 : decode b_Names_letterAt 28 = .ok (.iload_n 1, 1) := by decide +kernel
theorem d_Names_letterAt_29 : decode b_Names_letterAt 29 = .ok (.iaload, 1) := by decide +kernel
theorem d_Names_letterAt_30 : decode b_Names_letterAt 30 = .ok (.iconst 5, 1) := by decide +kernel
theorem d_Names_letterAt_31 : decode b_Names_letterAt 31 = .ok (.iconst 5, 1) := by decide +kernel
theorem d_Names_letterAt_32 : decode b_Names_letterAt 32 = .ok (.iload_n 2, 1) := by decide +kernel
theorem d_Names_letterAt_33 : decode b_Names_letterAt 33 = .ok (.isub, 1) := by decide +kernel
theorem d_Names_letterAt_34 : decode b_Names_letterAt 34 = .ok (.imul, 1) := by decide +kernel
theorem d_Names_letterAt_35 : decode b_Names_letterAt 35 = .ok (.ishr, 1) := by decide +kernel
theorem d_Names_letterAt_36 : decode b_Names_letterAt 36 = .ok (.bipush 31, 2) := by decide +kernel
theorem d_Names_letterAt_38 : decode b_Names_letterAt 38 = .ok (.iand, 1) := by decide +kernel
theorem d_Names_letterAt_39 : decode b_Names_letterAt 39 = .ok (.istore_n 3, 1) := by decide +kernel
theorem d_Names_letterAt_40 : decode b_Names_letterAt 40 = .ok (.iload_n 3, 1) := by decide +kernel
theorem d_Names_letterAt_41 : decode b_Names_letterAt 41 = .ok (.ifCond .ne 7, 3) := by decide +kernel
theorem d_Names_letterAt_44 : decode b_Names_letterAt 44 = .ok (.iconst (-1), 1) := by decide +kernel
theorem d_Names_letterAt_45 : decode b_Names_letterAt 45 = .ok (.goto 9, 3) := by decide +kernel
theorem d_Names_letterAt_48 : decode b_Names_letterAt 48 = .ok (.iload_n 3, 1) := by decide +kernel
theorem d_Names_letterAt_49 : decode b_Names_letterAt 49 = .ok (.bipush 97, 2) := by decide +kernel
theorem d_Names_letterAt_51 : decode b_Names_letterAt 51 = .ok (.iadd, 1) := by decide +kernel
theorem d_Names_letterAt_52 : decode b_Names_letterAt 52 = .ok (.iconst 1, 1) := by decide +kernel
theorem d_Names_letterAt_53 : decode b_Names_letterAt 53 = .ok (.isub, 1) := by decide +kernel
theorem d_Names_letterAt_54 : decode b_Names_letterAt 54 = .ok (.ireturn, 1) := by decide +kernel
def μ_Names_letterAt : ax_M := (b_Names_letterAt, 4, "DotConsole$Names", (some .int), 0, 0, 0, 0)
theorem Y_Names_letterAt : ax_YV μ_Names_letterAt y_Names_letterAt 2 := ⟨⟨ax_mem (by decide +kernel) rfl, ax_mem (by decide +kernel) rfl, by decide, by decide, by decide +kernel⟩, ax_mem (by decide +kernel) rfl, ax_mem (by decide +kernel) rfl⟩
def J_Names_letterAt (N : Nat) (a1 : Int32) (a2 : Int32) (σ : St) : Option (Int32 × St) :=
  (if a1 < 0 then
  some ((-1), σ)
  else (if (σ.1 4) ≤ a1 then
  some ((-1), σ)
  else (if a2 < 0 then
  some ((-1), σ)
  else (if a2 < 6 then
  (if (inB a1 12) = true then ax_let ((((σ.2 5 a1.toNatClampNeg) >>> ((5 * (5 - a2)) &&& 31)) &&& 31) : Int32) (fun v1 =>
  (if v1 = 0 then
  some ((-1), σ)
  else some (((v1 + 97) - 1), σ))) else none)
  else some ((-1), σ)))))
set_option maxHeartbeats 1000000 in
theorem c_Names_letterAt {N : Nat} {g : ax_G} {a1 : Int32} {a2 : Int32} {σ : St} {r9 : Int32} {s9 : St} (hJ : J_Names_letterAt N a1 a2 σ = some (r9, s9)) : ax_CI μ_Names_letterAt g y_Names_letterAt (wC g) [.ref (g.2.1 7), .int a1, .int a2] σ (ax_eqI r9 s9) := by
  refine ax_CI.of (plainFor_of_name rfl) rfl (Nat.le_of_ble_eq_true rfl) (fun x A _ => ?_)
  show AW x μ_Names_letterAt g A (wC g) (0, 0) (ax_QI x μ_Names_letterAt g A (wC g) (ax_eqI r9 s9)) 0 [(0, .ref (g.2.1 7)), (1, .int a1), (2, .int a2)] [] σ
  rw [J_Names_letterAt] at hJ
  refine aw_iload_n (n := 1) d_Names_letterAt_0 rfl rfl 1 rfl ?_
  refine aw_if_lt (n := 4) (t := 22) d_Names_letterAt_1 rfl (by decide) (fun c1 => ?_) (fun c1 => ?_)
  · rw [if_pos c1] at hJ
    refine aw_iconst (n := 23) (v := -1) d_Names_letterAt_22 rfl (by decide) ?_
    exact aw_iret d_Names_letterAt_23 rfl (ax_ret hJ)
  · rw [if_neg c1] at hJ
    refine aw_iload_n (n := 5) d_Names_letterAt_4 rfl rfl 1 rfl ?_
    refine aw_aload_n (n := 6) d_Names_letterAt_5 rfl rfl 0 rfl ?_
    refine gf_Names_kept (n := 9) d_Names_letterAt_6 rfl kf_Names_15 ?_
    refine aw_icmp_ge (n := 12) (t := 22) d_Names_letterAt_9 rfl (by decide) (fun c2 => ?_) (fun c2 => ?_)
    · rw [if_pos c2] at hJ
      refine aw_iconst (n := 23) (v := -1) d_Names_letterAt_22 rfl (by decide) ?_
      exact aw_iret d_Names_letterAt_23 rfl (ax_ret hJ)
    · rw [if_neg c2] at hJ
      refine aw_iload_n (n := 13) d_Names_letterAt_12 rfl rfl 2 rfl ?_
      refine aw_if_lt (n := 16) (t := 22) d_Names_letterAt_13 rfl (by decide) (fun c3 => ?_) (fun c3 => ?_)
      · rw [if_pos c3] at hJ
        refine aw_iconst (n := 23) (v := -1) d_Names_letterAt_22 rfl (by decide) ?_
        exact aw_iret d_Names_letterAt_23 rfl (ax_ret hJ)
      · rw [if_neg c3] at hJ
        refine aw_iload_n (n := 17) d_Names_letterAt_16 rfl rfl 2 rfl ?_
        refine aw_bipush (n := 19) (v := 6) d_Names_letterAt_17 rfl (by decide) ?_
        refine aw_icmp_lt (n := 22) (t := 24) d_Names_letterAt_19 rfl (by decide) (fun c4 => ?_) (fun c4 => ?_)
        · rw [if_pos c4] at hJ
          refine aw_aload_n (n := 25) d_Names_letterAt_24 rfl rfl 0 rfl ?_
          refine gf_Names_keys (n := 28) d_Names_letterAt_25 rfl kf_Names_9 ?_
          refine aw_iload_n (n := 29) d_Names_letterAt_28 rfl rfl 1 rfl ?_
          obtain ⟨h1, hJ⟩ := ax_need hJ
          refine al_8 (n := 30) d_Names_letterAt_29 rfl h1 ?_
          refine aw_iconst (n := 31) (v := 5) d_Names_letterAt_30 rfl (by decide) ?_
          refine aw_iconst (n := 32) (v := 5) d_Names_letterAt_31 rfl (by decide) ?_
          refine aw_iload_n (n := 33) d_Names_letterAt_32 rfl rfl 2 rfl ?_
          refine aw_isub (n := 34) d_Names_letterAt_33 rfl ?_
          refine aw_imul (n := 35) d_Names_letterAt_34 rfl ?_
          refine aw_ishr (n := 36) d_Names_letterAt_35 rfl ?_
          refine aw_bipush (n := 38) (v := 31) d_Names_letterAt_36 rfl (by decide) ?_
          refine aw_iand (n := 39) d_Names_letterAt_38 rfl ?_
          obtain ⟨v1, ev1, hJ⟩ := ax_letE hJ
          refine aw_top ev1 ?_
          refine aw_istore_n (n := 40) d_Names_letterAt_39 rfl rfl (by decide) rfl ?_
          refine aw_iload_n (n := 41) d_Names_letterAt_40 rfl rfl 0 rfl ?_
          refine aw_if_ne (n := 44) (t := 48) d_Names_letterAt_41 rfl (by decide) (fun c5 => ?_) (fun c5 => ?_)
          · rw [if_neg c5] at hJ
            refine aw_iload_n (n := 49) d_Names_letterAt_48 rfl rfl 0 rfl ?_
            refine aw_bipush (n := 51) (v := 97) d_Names_letterAt_49 rfl (by decide) ?_
            refine aw_iadd (n := 52) d_Names_letterAt_51 rfl ?_
            refine aw_iconst (n := 53) (v := 1) d_Names_letterAt_52 rfl (by decide) ?_
            refine aw_isub (n := 54) d_Names_letterAt_53 rfl ?_
            exact aw_iret d_Names_letterAt_54 rfl (ax_ret hJ)
          · rw [if_pos c5] at hJ
            refine aw_iconst (n := 45) (v := -1) d_Names_letterAt_44 rfl (by decide) ?_
            refine aw_goto (t := 54) d_Names_letterAt_45 (by decide) ?_
            exact aw_iret d_Names_letterAt_54 rfl (ax_ret hJ)
        · rw [if_neg c4] at hJ
          refine aw_iconst (n := 23) (v := -1) d_Names_letterAt_22 rfl (by decide) ?_
          exact aw_iret d_Names_letterAt_23 rfl (ax_ret hJ)
abbrev b_Con_name : ByteArray := prog_1_method_11_code
def y_Con_name : MethodName := ⟨"DotConsole", "name", "(II)I"⟩
theorem d_Con_name_0 : decode b_Con_name 0 = .ok (.aload_n 0, 1) := by decide +kernel
theorem d_Con_name_1 : decode b_Con_name 1 = .ok (.getfield 19, 3) := by decide +kernel
theorem d_Con_name_4 : decode b_Con_name 4 = .ok (.iload_n 1, 1) := by decide +kernel
theorem d_Con_name_5 : decode b_Con_name 5 = .ok (.iload_n 2, 1) := by decide +kernel
theorem d_Con_name_6 : decode b_Con_name 6 = .ok (.invokevirtual 126, 3) := by decide +kernel
theorem d_Con_name_9 : decode b_Con_name 9 = .ok (.ireturn, 1) := by decide +kernel
def μ_Con_name : ax_M := (b_Con_name, 3, "DotConsole", (some .int), 1, 23, 0, 0)
theorem Y_Con_name : ax_YV μ_Con_name y_Con_name 2 := ⟨⟨ax_mem (by decide +kernel) rfl, ax_mem (by decide +kernel) rfl, by decide, by decide, by decide +kernel⟩, ax_mem (by decide +kernel) rfl, ax_mem (by decide +kernel) rfl⟩
theorem km_Con_126 : Cond.methodLink "DotConsole" 126 ⟨"DotConsole$Names", "letterAt", "(II)I"⟩ ∈ ax_T := ax_mem (by decide +kernel) rfl
def J_Con_name (N : Nat) (a1 : Int32) (a2 : Int32) (σ : St) : Option (Int32 × St) :=
  ax_bind (J_Names_letterAt N a1 a2 σ) (fun r1 σ1 =>
  some (r1, σ1))
set_option maxHeartbeats 1000000 in
theorem c_Con_name {N : Nat} {g : ax_G} {a1 : Int32} {a2 : Int32} {σ : St} {r9 : Int32} {s9 : St} (hJ : J_Con_name N a1 a2 σ = some (r9, s9)) : ax_CI μ_Con_name g y_Con_name (wC g) [.ref (g.2.1 0), .int a1, .int a2] σ (ax_eqI r9 s9) := by
  refine ax_CI.of (plainFor_of_name rfl) rfl (Nat.le_of_ble_eq_true rfl) (fun x A _ => ?_)
  show AW x μ_Con_name g A (wC g) (0, 0) (ax_QI x μ_Con_name g A (wC g) (ax_eqI r9 s9)) 0 [(0, .ref (g.2.1 0)), (1, .int a1), (2, .int a2)] [] σ
  rw [J_Con_name] at hJ
  refine aw_aload_n (n := 1) d_Con_name_0 rfl rfl 0 rfl ?_
  refine gf_Con_names (n := 4) d_Con_name_1 rfl kf_Con_19 ?_
  refine aw_iload_n (n := 5) d_Con_name_4 rfl rfl 1 rfl ?_
  refine aw_iload_n (n := 6) d_Con_name_5 rfl rfl 2 rfl ?_
  obtain ⟨r1, σ1, hc1, hJ⟩ := ax_bindE hJ
  refine aw_callVi (n := 9) (c_Names_letterAt hc1) 7 rfl rfl Y_Names_letterAt km_Con_126 (by decide) (by decide) rfl rfl (Nat.le_of_ble_eq_true rfl) d_Con_name_6 rfl (fun r9 s9 hp => ?_)
  obtain ⟨rfl, rfl⟩ := hp
  exact aw_iret d_Con_name_9 rfl (ax_ret hJ)
abbrev b_Con_cell : ByteArray := prog_1_method_12_code
def y_Con_cell : MethodName := ⟨"DotConsole", "cell", "(I)I"⟩
theorem d_Con_cell_0 : decode b_Con_cell 0 = .ok (.aload_n 0, 1) := by decide +kernel
theorem d_Con_cell_1 : decode b_Con_cell 1 = .ok (.getfield 44, 3) := by decide +kernel
theorem d_Con_cell_4 : decode b_Con_cell 4 = .ok (.iload_n 1, 1) := by decide +kernel
theorem d_Con_cell_5 : decode b_Con_cell 5 = .ok (.invokevirtual 129, 3) := by decide +kernel
theorem d_Con_cell_8 : decode b_Con_cell 8 = .ok (.ireturn, 1) := by decide +kernel
def μ_Con_cell : ax_M := (b_Con_cell, 2, "DotConsole", (some .int), 1, 21, 0, 0)
theorem Y_Con_cell : ax_YV μ_Con_cell y_Con_cell 1 := ⟨⟨ax_mem (by decide +kernel) rfl, ax_mem (by decide +kernel) rfl, by decide, by decide, by decide +kernel⟩, ax_mem (by decide +kernel) rfl, ax_mem (by decide +kernel) rfl⟩
theorem km_Con_129 : Cond.methodLink "DotConsole" 129 ⟨"DotConsole$Machine", "readCell", "(I)I"⟩ ∈ ax_T := ax_mem (by decide +kernel) rfl
def J_Con_cell (N : Nat) (a1 : Int32) (σ : St) : Option (Int32 × St) :=
  ax_bind (J_Machine_readCell N a1 σ) (fun r1 σ1 =>
  some (r1, σ1))
set_option maxHeartbeats 1000000 in
theorem c_Con_cell {N : Nat} {g : ax_G} {a1 : Int32} {σ : St} {r9 : Int32} {s9 : St} (hJ : J_Con_cell N a1 σ = some (r9, s9)) : ax_CI μ_Con_cell g y_Con_cell (wC g) [.ref (g.2.1 0), .int a1] σ (ax_eqI r9 s9) := by
  refine ax_CI.of (plainFor_of_name rfl) rfl (Nat.le_of_ble_eq_true rfl) (fun x A _ => ?_)
  show AW x μ_Con_cell g A (wC g) (0, 0) (ax_QI x μ_Con_cell g A (wC g) (ax_eqI r9 s9)) 0 [(0, .ref (g.2.1 0)), (1, .int a1)] [] σ
  rw [J_Con_cell] at hJ
  refine aw_aload_n (n := 1) d_Con_cell_0 rfl rfl 0 rfl ?_
  refine gf_Con_machine (n := 4) d_Con_cell_1 rfl kf_Con_44 ?_
  refine aw_iload_n (n := 5) d_Con_cell_4 rfl rfl 1 rfl ?_
  obtain ⟨r1, σ1, hc1, hJ⟩ := ax_bindE hJ
  refine aw_callVi (n := 8) (c_Machine_readCell hc1) 24 rfl rfl Y_Machine_readCell km_Con_129 (by decide) (by decide) rfl rfl (Nat.le_of_ble_eq_true rfl) d_Con_cell_5 rfl (fun r9 s9 hp => ?_)
  obtain ⟨rfl, rfl⟩ := hp
  exact aw_iret d_Con_cell_8 rfl (ax_ret hJ)
abbrev b_Con_nodes : ByteArray := prog_1_method_13_code
def y_Con_nodes : MethodName := ⟨"DotConsole", "nodes", "(I)I"⟩
theorem d_Con_nodes_0 : decode b_Con_nodes 0 = .ok (.iload_n 1, 1) := by decide +kernel
theorem d_Con_nodes_1 : decode b_Con_nodes 1 = .ok (.iconst 1, 1) := by decide +kernel
theorem d_Con_nodes_2 : decode b_Con_nodes 2 = .ok (.if_icmp .lt 28, 3) := by decide +kernel
theorem d_Con_nodes_5 : decode b_Con_nodes 5 = .ok (.iload_n 1, 1) := by decide +kernel
theorem d_Con_nodes_6 : decode b_Con_nodes 6 = .ok (.aload_n 0, 1) := by decide +kernel
theorem d_Con_nodes_7 : decode b_Con_nodes 7 = .ok (.getfield 35, 3) := by decide +kernel
theorem d_Con_nodes_10 : decode b_Con_nodes 10 = .ok (.getfield 89, 3) := by decide +kernel
theorem d_Con_nodes_13 : decode b_Con_nodes 13 = .ok (.if_icmp .gt 17, 3) := by decide +kernel
theorem d_Con_nodes_16 : decode b_Con_nodes 16 = .ok (.aload_n 0, 1) := by decide +kernel
theorem d_Con_nodes_17 : decode b_Con_nodes 17 = .ok (.getfield 35, 3) := by decide +kernel
theorem d_Con_nodes_20 : decode b_Con_nodes 20 = .ok (.getfield 133, 3) := by decide +kernel
theorem d_Con_nodes_23 : decode b_Con_nodes 23 = .ok (.iload_n 1, 1) := by decide +kernel
theorem d_Con_nodes_24 : decode b_Con_nodes 24 = .ok (.iconst 1, 1) := by decide +kernel
theorem d_Con_nodes_25 : decode b_Con_nodes 25 = .ok (.isub, 1) := by decide +kernel
theorem d_Con_nodes_26 : decode b_Con_nodes 26 = .ok (.iaload, 1) := by decide +kernel
theorem d_Con_nodes_27 : decode b_Con_nodes 27 = .ok (.goto 4, 3) := by decide +kernel
theorem d_Con_nodes_30 : decode b_Con_nodes 30 = .ok (.iconst (-1), 1) := by decide +kernel
theorem d_Con_nodes_31 : decode b_Con_nodes 31 = .ok (.ireturn, 1) := by decide +kernel
def μ_Con_nodes : ax_M := (b_Con_nodes, 2, "DotConsole", (some .int), 0, 0, 0, 0)
theorem Y_Con_nodes : ax_YV μ_Con_nodes y_Con_nodes 1 := ⟨⟨ax_mem (by decide +kernel) rfl, ax_mem (by decide +kernel) rfl, by decide, by decide, by decide +kernel⟩, ax_mem (by decide +kernel) rfl, ax_mem (by decide +kernel) rfl⟩
theorem kf_Con_133 : Cond.fieldLink "DotConsole" 133 "DotConsole$Program" "nodeCounts" "[I" ∈ ax_T := ax_mem (by decide +kernel) rfl
def J_Con_nodes (N : Nat) (a1 : Int32) (σ : St) : Option (Int32 × St) :=
  (if a1 < 1 then
  some ((-1), σ)
  else (if (σ.1 16) < a1 then
  some ((-1), σ)
  else (if (inB (a1 - 1) 28) = true then some ((σ.2 14 (a1 - 1).toNatClampNeg), σ) else none)))
set_option maxHeartbeats 1000000 in
theorem c_Con_nodes {N : Nat} {g : ax_G} {a1 : Int32} {σ : St} {r9 : Int32} {s9 : St} (hJ : J_Con_nodes N a1 σ = some (r9, s9)) : ax_CI μ_Con_nodes g y_Con_nodes (wC g) [.ref (g.2.1 0), .int a1] σ (ax_eqI r9 s9) := by
  refine ax_CI.of (plainFor_of_name rfl) rfl (Nat.le_of_ble_eq_true rfl) (fun x A _ => ?_)
  show AW x μ_Con_nodes g A (wC g) (0, 0) (ax_QI x μ_Con_nodes g A (wC g) (ax_eqI r9 s9)) 0 [(0, .ref (g.2.1 0)), (1, .int a1)] [] σ
  rw [J_Con_nodes] at hJ
  refine aw_iload_n (n := 1) d_Con_nodes_0 rfl rfl 1 rfl ?_
  refine aw_iconst (n := 2) (v := 1) d_Con_nodes_1 rfl (by decide) ?_
  refine aw_icmp_lt (n := 5) (t := 30) d_Con_nodes_2 rfl (by decide) (fun c1 => ?_) (fun c1 => ?_)
  · rw [if_pos c1] at hJ
    refine aw_iconst (n := 31) (v := -1) d_Con_nodes_30 rfl (by decide) ?_
    exact aw_iret d_Con_nodes_31 rfl (ax_ret hJ)
  · rw [if_neg c1] at hJ
    refine aw_iload_n (n := 6) d_Con_nodes_5 rfl rfl 1 rfl ?_
    refine aw_aload_n (n := 7) d_Con_nodes_6 rfl rfl 0 rfl ?_
    refine gf_Con_program (n := 10) d_Con_nodes_7 rfl kf_Con_35 ?_
    refine gf_Program_lines (n := 13) d_Con_nodes_10 rfl kf_Con_89 ?_
    refine aw_icmp_gt (n := 16) (t := 30) d_Con_nodes_13 rfl (by decide) (fun c2 => ?_) (fun c2 => ?_)
    · rw [if_pos c2] at hJ
      refine aw_iconst (n := 31) (v := -1) d_Con_nodes_30 rfl (by decide) ?_
      exact aw_iret d_Con_nodes_31 rfl (ax_ret hJ)
    · rw [if_neg c2] at hJ
      refine aw_aload_n (n := 17) d_Con_nodes_16 rfl rfl 0 rfl ?_
      refine gf_Con_program (n := 20) d_Con_nodes_17 rfl kf_Con_35 ?_
      refine gf_Program_nodeCounts (n := 23) d_Con_nodes_20 rfl kf_Con_133 ?_
      refine aw_iload_n (n := 24) d_Con_nodes_23 rfl rfl 1 rfl ?_
      refine aw_iconst (n := 25) (v := 1) d_Con_nodes_24 rfl (by decide) ?_
      refine aw_isub (n := 26) d_Con_nodes_25 rfl ?_
      obtain ⟨h1, hJ⟩ := ax_need hJ
      refine al_19 (n := 27) d_Con_nodes_26 rfl h1 ?_
      refine aw_goto (t := 31) d_Con_nodes_27 (by decide) ?_
      exact aw_iret d_Con_nodes_31 rfl (ax_ret hJ)
