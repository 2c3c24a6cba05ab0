/-! WALKED: Con_add, Con_place, Program_openBlock, Program_turnBlock, Program_closeBlock, Program_fits, Program_findWrongLine, Con_seal, Pad_press, Program_isMark, Program_skipMarks, Con_partsOf, Machine_floor, Screen_isInside. Printed by wip/whole/build.py. -/
abbrev b_Con_add : ByteArray := prog_1_method_3_code
def y_Con_add : MethodName := ⟨"DotConsole", "add", "()I"⟩
theorem d_Con_add_0 : decode b_Con_add 0 = .ok (.iconst (-1), 1) := by decide +kernel
theorem d_Con_add_1 : decode b_Con_add 1 = .ok (.istore_n 1, 1) := by decide +kernel
theorem d_Con_add_2 : decode b_Con_add 2 = .ok (.aload_n 0, 1) := by decide +kernel
theorem d_Con_add_3 : decode b_Con_add 3 = .ok (.getfield 35, 3) := by decide +kernel
theorem d_Con_add_6 : decode b_Con_add 6 = .ok (.getfield 59, 3) := by decide +kernel
theorem d_Con_add_9 : decode b_Con_add 9 = .ok (.ifCond .ne 30, 3) := by decide +kernel
theorem d_Con_add_12 : decode b_Con_add 12 = .ok (.aload_n 0, 1) := by decide +kernel
theorem d_Con_add_13 : decode b_Con_add 13 = .ok (.getfield 10, 3) := by decide +kernel
theorem d_Con_add_16 : decode b_Con_add 16 = .ok (.invokevirtual 63, 3) := by decide +kernel
theorem d_Con_add_19 : decode b_Con_add 19 = .ok (.aload_n 0, 1) := by decide +kernel
theorem d_Con_add_20 : decode b_Con_add 20 = .ok (.getfield 28, 3) := by decide +kernel
theorem d_Con_add_23 : decode b_Con_add 23 = .ok (.invokevirtual 66, 3) := by decide +kernel
theorem d_Con_add_26 : decode b_Con_add 26 = .ok (.ifCond .eq 10, 3) := by decide +kernel
theorem d_Con_add_29 : decode b_Con_add 29 = .ok (.aload_n 0, 1) := by decide +kernel
theorem d_Con_add_30 : decode b_Con_add 30 = .ok (.invokevirtual 70, 3) := by decide +kernel
theorem d_Con_add_33 : decode b_Con_add 33 = .ok (.goto 5, 3) := by decide +kernel
theorem d_Con_add_36 : decode b_Con_add 36 = .ok (.bipush (-3), 2) := by decide +kernel
theorem d_Con_add_38 : decode b_Con_add 38 = .ok (.istore_n 1, 1) := by decide +kernel
theorem d_Con_add_39 : decode b_Con_add 39 = .ok (.aload_n 0, 1) := by decide +kernel
theorem d_Con_add_40 : decode b_Con_add 40 = .ok (.iload_n 1, 1) := by decide +kernel
theorem d_Con_add_41 : decode b_Con_add 41 = .ok (.bipush (-3), 2) := by decide +kernel
theorem d_Con_add_43 : decode b_Con_add 43 = .ok (.if_icmp .ne 13, 3) := by decide +kernel
theorem d_Con_add_46 : decode b_Con_add 46 = .ok (.aload_n 0, 1) := by decide +kernel
theorem d_Con_add_47 : decode b_Con_add 47 = .ok (.getfield 28, 3) := by decide +kernel
theorem d_Con_add_50 : decode b_Con_add 50 = .ok (.invokevirtual 74, 3) := by decide +kernel
theorem d_Con_add_53 : decode b_Con_add 53 = .ok (.goto 4, 3) := by decide +kernel
theorem d_Con_add_56 : decode b_Con_add 56 = .ok (.iconst (-1), 1) := by decide +kernel
theorem d_Con_add_57 : decode b_Con_add 57 = .ok (.putfield 48, 3) := by decide +kernel
theorem d_Con_add_60 : decode b_Con_add 60 = .ok (.iload_n 1, 1) := by decide +kernel
theorem d_Con_add_61 : decode b_Con_add 61 = .ok (.ifCond .le 21, 3) := by decide +kernel
theorem d_Con_add_64 : decode b_Con_add 64 = .ok (.aload_n 0, 1) := by decide +kernel
theorem d_Con_add_65 : decode b_Con_add 65 = .ok (.getfield 19, 3) := by decide +kernel
theorem d_Con_add_68 : decode b_Con_add 68 = .ok (.invokevirtual 77, 3) := by decide +kernel
theorem d_Con_add_71 : decode b_Con_add 71 = .ok (.aload_n 0, 1) := by decide +kernel
theorem d_Con_add_72 : decode b_Con_add 72 = .ok (.getfield 35, 3) := by decide +kernel
theorem d_Con_add_75 : decode b_Con_add 75 = .ok (.aload_n 0, 1) := by decide +kernel
theorem d_Con_add_76 : decode b_Con_add 76 = .ok (.getfield 28, 3) := by decide +kernel
theorem d_Con_add_79 : decode b_Con_add 79 = .ok (.invokevirtual 80, 3) := by decide +kernel
theorem d_Con_add_82 : decode b_Con_add 82 = .ok (.aload_n 0, 1) := by decide +kernel
theorem d_Con_add_83 : decode b_Con_add 83 = .ok (.getfield 10, 3) := by decide +kernel
theorem d_Con_add_86 : decode b_Con_add 86 = .ok (.invokevirtual 83, 3) := by decide +kernel
theorem d_Con_add_89 : decode b_Con_add 89 = .ok (.iload_n 1, 1) := by decide +kernel
theorem d_Con_add_90 : decode b_Con_add 90 = .ok (.ireturn, 1) := by decide +kernel
def μ_Con_add : ax_M := (b_Con_add, 2, "DotConsole", (some .int), 7, 154, 0, 0)
theorem Y_Con_add : ax_YV μ_Con_add y_Con_add 0 := ⟨⟨ax_mem (by decide +kernel) rfl, ax_mem (by decide +kernel) rfl, by decide, by decide, by decide +kernel⟩, ax_mem (by decide +kernel) rfl, ax_mem (by decide +kernel) rfl⟩
theorem kf_Con_48 : Cond.fieldLink "DotConsole" 48 "DotConsole" "badPlace" "I" ∈ ax_T := ax_mem (by decide +kernel) rfl
theorem km_Con_83 : Cond.methodLink "DotConsole" 83 ⟨"DotConsole$Tokens", "empty", "()V"⟩ ∈ ax_T := ax_mem (by decide +kernel) rfl
theorem km_Con_77 : Cond.methodLink "DotConsole" 77 ⟨"DotConsole$Names", "keepSeen", "()V"⟩ ∈ ax_T := ax_mem (by decide +kernel) rfl
theorem km_Con_80 : Cond.methodLink "DotConsole" 80 ⟨"DotConsole$Program", "append", "(LDotConsole$LineReader;)V"⟩ ∈ ax_T := ax_mem (by decide +kernel) rfl
theorem km_Con_74 : Cond.methodLink "DotConsole" 74 ⟨"DotConsole$LineReader", "wrongPlace", "()I"⟩ ∈ ax_T := ax_mem (by decide +kernel) rfl
theorem kf_Con_59 : Cond.fieldLink "DotConsole" 59 "DotConsole$Program" "sealed" "Z" ∈ ax_T := ax_mem (by decide +kernel) rfl
theorem km_Con_63 : Cond.methodLink "DotConsole" 63 ⟨"DotConsole$Tokens", "cut", "()V"⟩ ∈ ax_T := ax_mem (by decide +kernel) rfl
theorem km_Con_66 : Cond.methodLink "DotConsole" 66 ⟨"DotConsole$LineReader", "readLine", "()Z"⟩ ∈ ax_T := ax_mem (by decide +kernel) rfl
theorem km_Con_70 : Cond.methodLink "DotConsole" 70 ⟨"DotConsole", "answerToStatement", "()I"⟩ ∈ ax_T := ax_mem (by decide +kernel) rfl
def J_Con_add_57 (N : Nat) (t0 : Int32) (l1 : Int32) (σ : St) : Option (Int32 × St) :=
  ax_let (sF σ 0 t0) (fun σ5 =>
  (if l1 ≤ 0 then
  ax_bindV (J_Tokens_empty N σ5) (fun σ6 =>
  some (l1, σ6))
  else ax_bindV (J_Names_keepSeen N σ5) (fun σ7 =>
  ax_bindV (J_Program_append_9 N σ7) (fun σ8 =>
  ax_bindV (J_Tokens_empty N σ8) (fun σ9 =>
  some (l1, σ9))))))
def J_Con_add_39 (N : Nat) (l1 : Int32) (σ : St) : Option (Int32 × St) :=
  (if l1 = (-3) then
  ax_bind (J_LineReader_wrongPlace N σ) (fun r3 σ4 =>
  J_Con_add_57 N r3 l1 σ4)
  else J_Con_add_57 N (-1) l1 σ)
def J_Con_add_38 (N : Nat) (t0 : Int32) (σ : St) : Option (Int32 × St) :=
  J_Con_add_39 N t0 σ
def J_Con_add (N : Nat) (σ : St) : Option (Int32 × St) :=
  (if (σ.1 17) = 0 then
  ax_bindV (J_Tokens_cut N σ) (fun σ1 =>
  ax_bind (J_LineReader_readLine N σ1) (fun r1 σ2 =>
  (if r1 = 0 then
  J_Con_add_38 N (-3) σ2
  else ax_bind (J_Con_answerToStatement N σ2) (fun r2 σ3 =>
  J_Con_add_38 N r2 σ3))))
  else J_Con_add_39 N (-1) σ)
set_option maxHeartbeats 1000000 in
theorem t_Con_add_57 {N : Nat} {g : ax_G} {r9 : Int32} {s9 : St} (x : ax_X) (A : Nat → Prop) : ∀ (t0 : Int32) (l1 : Int32) (σ : St), J_Con_add_57 N t0 l1 σ = some (r9, s9) → AW x μ_Con_add g A (wC g) (0, 0) (ax_QI x μ_Con_add g A (wC g) (ax_eqI r9 s9)) 57 [(0, .ref (g.2.1 0)), (1, .int l1)] [.int t0, .ref (g.2.1 0)] σ := by
  intro t0 l1 σ hJ
  rw [J_Con_add_57] at hJ
  refine pf_Con_badPlace (n := 60) d_Con_add_57 rfl kf_Con_48 ?_
  obtain ⟨σ5, eσ5, hJ⟩ := ax_letE hJ
  refine aw_let eσ5 ?_
  refine aw_iload_n (n := 61) d_Con_add_60 rfl rfl 1 rfl ?_
  refine aw_if_le (n := 64) (t := 82) d_Con_add_61 rfl (by decide) (fun c4 => ?_) (fun c4 => ?_)
  · rw [if_pos c4] at hJ
    refine aw_aload_n (n := 83) d_Con_add_82 rfl rfl 0 rfl ?_
    refine gf_Con_tokens (n := 86) d_Con_add_83 rfl kf_Con_10 ?_
    obtain ⟨σ6, hc5, hJ⟩ := ax_bindVE hJ
    refine aw_callVv (n := 89) (c_Tokens_empty hc5) 1 rfl rfl Y_Tokens_empty km_Con_83 (by decide) (by decide) rfl rfl (Nat.le_of_ble_eq_true rfl) d_Con_add_86 rfl (fun s9 hp => ?_)
    subst hp
    refine aw_iload_n (n := 90) d_Con_add_89 rfl rfl 1 rfl ?_
    exact aw_iret d_Con_add_90 rfl (ax_ret hJ)
  · rw [if_neg c4] at hJ
    refine aw_aload_n (n := 65) d_Con_add_64 rfl rfl 0 rfl ?_
    refine gf_Con_names (n := 68) d_Con_add_65 rfl kf_Con_19 ?_
    obtain ⟨σ7, hc6, hJ⟩ := ax_bindVE hJ
    refine aw_callVv (n := 71) (c_Names_keepSeen hc6) 7 rfl rfl Y_Names_keepSeen km_Con_77 (by decide) (by decide) rfl rfl (Nat.le_of_ble_eq_true rfl) d_Con_add_68 rfl (fun s9 hp => ?_)
    subst hp
    refine aw_aload_n (n := 72) d_Con_add_71 rfl rfl 0 rfl ?_
    refine gf_Con_program (n := 75) d_Con_add_72 rfl kf_Con_35 ?_
    refine aw_aload_n (n := 76) d_Con_add_75 rfl rfl 0 rfl ?_
    refine gf_Con_reader (n := 79) d_Con_add_76 rfl kf_Con_28 ?_
    obtain ⟨σ8, hc7, hJ⟩ := ax_bindVE hJ
    refine aw_callVv (n := 82) (c_Program_append_9 hc7) 16 rfl rfl Y_Program_append_9 km_Con_80 (by decide) (by decide) rfl rfl (Nat.le_of_ble_eq_true rfl) d_Con_add_79 rfl (fun s9 hp => ?_)
    subst hp
    refine aw_aload_n (n := 83) d_Con_add_82 rfl rfl 0 rfl ?_
    refine gf_Con_tokens (n := 86) d_Con_add_83 rfl kf_Con_10 ?_
    obtain ⟨σ9, hc8, hJ⟩ := ax_bindVE hJ
    refine aw_callVv (n := 89) (c_Tokens_empty hc8) 1 rfl rfl Y_Tokens_empty km_Con_83 (by decide) (by decide) rfl rfl (Nat.le_of_ble_eq_true rfl) d_Con_add_86 rfl (fun s9 hp => ?_)
    subst hp
    refine aw_iload_n (n := 90) d_Con_add_89 rfl rfl 1 rfl ?_
    exact aw_iret d_Con_add_90 rfl (ax_ret hJ)
set_option maxHeartbeats 1000000 in
theorem t_Con_add_39 {N : Nat} {g : ax_G} {r9 : Int32} {s9 : St} (x : ax_X) (A : Nat → Prop) : ∀ (l1 : Int32) (σ : St), J_Con_add_39 N l1 σ = some (r9, s9) → AW x μ_Con_add g A (wC g) (0, 0) (ax_QI x μ_Con_add g A (wC g) (ax_eqI r9 s9)) 39 [(0, .ref (g.2.1 0)), (1, .int l1)] [] σ := by
  intro l1 σ hJ
  rw [J_Con_add_39] at hJ
  refine aw_aload_n (n := 40) d_Con_add_39 rfl rfl 0 rfl ?_
  refine aw_iload_n (n := 41) d_Con_add_40 rfl rfl 1 rfl ?_
  refine aw_bipush (n := 43) (v := -3) d_Con_add_41 rfl (by decide) ?_
  refine aw_icmp_ne (n := 46) (t := 56) d_Con_add_43 rfl (by decide) (fun c3 => ?_) (fun c3 => ?_)
  · rw [if_neg c3] at hJ
    refine aw_iconst (n := 57) (v := -1) d_Con_add_56 rfl (by decide) ?_
    exact t_Con_add_57 x A _ _ _ hJ
  · rw [if_pos c3] at hJ
    refine aw_aload_n (n := 47) d_Con_add_46 rfl rfl 0 rfl ?_
    refine gf_Con_reader (n := 50) d_Con_add_47 rfl kf_Con_28 ?_
    obtain ⟨r3, σ4, hc4, hJ⟩ := ax_bindE hJ
    refine aw_callVi (n := 53) (c_LineReader_wrongPlace hc4) 9 rfl rfl Y_LineReader_wrongPlace km_Con_74 (by decide) (by decide) rfl rfl (Nat.le_of_ble_eq_true rfl) d_Con_add_50 rfl (fun r9 s9 hp => ?_)
    obtain ⟨rfl, rfl⟩ := hp
    refine aw_goto (t := 57) d_Con_add_53 (by decide) ?_
    exact t_Con_add_57 x A _ _ _ hJ
set_option maxHeartbeats 1000000 in
theorem t_Con_add_38 {N : Nat} {g : ax_G} {r9 : Int32} {s9 : St} (x : ax_X) (A : Nat → Prop) : ∀ (t0 : Int32) (σ : St), J_Con_add_38 N t0 σ = some (r9, s9) → AW x μ_Con_add g A (wC g) (0, 0) (ax_QI x μ_Con_add g A (wC g) (ax_eqI r9 s9)) 38 [(0, .ref (g.2.1 0))] [.int t0] σ := by
  intro t0 σ hJ
  rw [J_Con_add_38] at hJ
  refine aw_istore_n (n := 39) d_Con_add_38 rfl rfl (by decide) rfl ?_
  refine aw_sub [1, 0] rfl ?_
  exact t_Con_add_39 x A _ _ hJ
set_option maxHeartbeats 1000000 in
theorem c_Con_add {N : Nat} {g : ax_G} {σ : St} {r9 : Int32} {s9 : St} (hJ : J_Con_add N σ = some (r9, s9)) : ax_CI μ_Con_add g y_Con_add (wC g) [.ref (g.2.1 0)] σ (ax_eqI r9 s9) := by
  refine ax_CI.of (plainFor_of_name rfl) rfl (Nat.le_of_ble_eq_true rfl) (fun x A _ => ?_)
  show AW x μ_Con_add g A (wC g) (0, 0) (ax_QI x μ_Con_add g A (wC g) (ax_eqI r9 s9)) 0 [(0, .ref (g.2.1 0))] [] σ
  rw [J_Con_add] at hJ
  refine aw_iconst (n := 1) (v := -1) d_Con_add_0 rfl (by decide) ?_
  refine aw_istore_n (n := 2) d_Con_add_1 rfl rfl (by decide) rfl ?_
  refine aw_aload_n (n := 3) d_Con_add_2 rfl rfl 1 rfl ?_
  refine gf_Con_program (n := 6) d_Con_add_3 rfl kf_Con_35 ?_
  refine gf_Program_sealed (n := 9) d_Con_add_6 rfl kf_Con_59 ?_
  refine aw_if_ne (n := 12) (t := 39) d_Con_add_9 rfl (by decide) (fun c1 => ?_) (fun c1 => ?_)
  · rw [if_neg c1] at hJ
    refine aw_sub [1, 0] rfl ?_
    exact t_Con_add_39 x A _ _ hJ
  · rw [if_pos c1] at hJ
    refine aw_aload_n (n := 13) d_Con_add_12 rfl rfl 1 rfl ?_
    refine gf_Con_tokens (n := 16) d_Con_add_13 rfl kf_Con_10 ?_
    obtain ⟨σ1, hc1, hJ⟩ := ax_bindVE hJ
    refine aw_callVv (n := 19) (c_Tokens_cut hc1) 1 rfl rfl Y_Tokens_cut km_Con_63 (by decide) (by decide) rfl rfl (Nat.le_of_ble_eq_true rfl) d_Con_add_16 rfl (fun s9 hp => ?_)
    subst hp
    refine aw_aload_n (n := 20) d_Con_add_19 rfl rfl 1 rfl ?_
    refine gf_Con_reader (n := 23) d_Con_add_20 rfl kf_Con_28 ?_
    obtain ⟨r1, σ2, hc2, hJ⟩ := ax_bindE hJ
    refine aw_callVi (n := 26) (c_LineReader_readLine hc2) 9 rfl rfl Y_LineReader_readLine km_Con_66 (by decide) (by decide) rfl rfl (Nat.le_of_ble_eq_true rfl) d_Con_add_23 rfl (fun r9 s9 hp => ?_)
    obtain ⟨rfl, rfl, hb1⟩ := hp
    refine aw_if_eq (n := 29) (t := 36) d_Con_add_26 rfl (by decide) (fun c2 => ?_) (fun c2 => ?_)
    · rw [if_pos c2] at hJ
      refine aw_bipush (n := 38) (v := -3) d_Con_add_36 rfl (by decide) ?_
      refine aw_sub [1] rfl ?_
      exact t_Con_add_38 x A _ _ hJ
    · rw [if_neg c2] at hJ
      refine aw_aload_n (n := 30) d_Con_add_29 rfl rfl 1 rfl ?_
      obtain ⟨r2, σ3, hc3, hJ⟩ := ax_bindE hJ
      refine aw_callVi (n := 33) (c_Con_answerToStatement hc3) 0 rfl rfl Y_Con_answerToStatement km_Con_70 (by decide) (by decide) rfl rfl (Nat.le_of_ble_eq_true rfl) d_Con_add_30 rfl (fun r9 s9 hp => ?_)
      obtain ⟨rfl, rfl⟩ := hp
      refine aw_goto (t := 38) d_Con_add_33 (by decide) ?_
      refine aw_sub [1] rfl ?_
      exact t_Con_add_38 x A _ _ hJ
abbrev b_Con_place : ByteArray := prog_1_method_5_code
def y_Con_place : MethodName := ⟨"DotConsole", "place", "()I"⟩
theorem d_Con_place_0 : decode b_Con_place 0 = .ok (.aload_n 0, 1) := by decide +kernel
theorem d_Con_place_1 : decode b_Con_place 1 = .ok (.getfield 48, 3) := by decide +kernel
theorem d_Con_place_4 : decode b_Con_place 4 = .ok (.ireturn, 1) := by decide +kernel
def μ_Con_place : ax_M := (b_Con_place, 1, "DotConsole", (some .int), 0, 0, 0, 0)
theorem Y_Con_place : ax_YV μ_Con_place y_Con_place 0 := ⟨⟨ax_mem (by decide +kernel) rfl, ax_mem (by decide +kernel) rfl, by decide, by decide, by decide +kernel⟩, ax_mem (by decide +kernel) rfl, ax_mem (by decide +kernel) rfl⟩
def J_Con_place (N : Nat) (σ : St) : Option (Int32 × St) :=
  some ((σ.1 0), σ)
set_option maxHeartbeats 1000000 in
theorem c_Con_place {N : Nat} {g : ax_G} {σ : St} {r9 : Int32} {s9 : St} (hJ : J_Con_place N σ = some (r9, s9)) : ax_CI μ_Con_place g y_Con_place (wC g) [.ref (g.2.1 0)] σ (ax_eqI r9 s9) := by
  refine ax_CI.of (plainFor_of_name rfl) rfl (Nat.le_of_ble_eq_true rfl) (fun x A _ => ?_)
  show AW x μ_Con_place g A (wC g) (0, 0) (ax_QI x μ_Con_place g A (wC g) (ax_eqI r9 s9)) 0 [(0, .ref (g.2.1 0))] [] σ
  rw [J_Con_place] at hJ
  refine aw_aload_n (n := 1) d_Con_place_0 rfl rfl 0 rfl ?_
  refine gf_Con_badPlace (n := 4) d_Con_place_1 rfl kf_Con_48 ?_
  exact aw_iret d_Con_place_4 rfl (ax_ret hJ)
abbrev b_Program_openBlock : ByteArray := prog_6_method_5_code
def y_Program_openBlock : MethodName := ⟨"DotConsole$Program", "openBlock", "(I)Z"⟩
theorem d_Program_openBlock_0 : decode b_Program_openBlock 0 = .ok (.aload_n 0, 1) := by decide +kernel
theorem d_Program_openBlock_1 : decode b_Program_openBlock 1 = .ok (.getfield 56, 3) := by decide +kernel
theorem d_Program_openBlock_4 : decode b_Program_openBlock 4 = .ok (.iconst 4, 1) := by decide +kernel
theorem d_Program_openBlock_5 : decode b_Program_openBlock 5 = .ok (.if_icmp .ne 5, 3) := by decide +kernel
theorem d_Program_openBlock_8 : decode b_Program_openBlock 8 = .ok (.iconst 0, 1) := by decide +kernel
theorem d_Program_openBlock_9 : decode b_Program_openBlock 9 = .ok (.ireturn, 1) := by decide +kernel
theorem d_Program_openBlock_10 : decode b_Program_openBlock 10 = .ok (.aload_n 0, 1) := by decide +kernel
theorem d_Program_openBlock_11 : decode b_Program_openBlock 11 = .ok (.getfield 30, 3) := by decide +kernel
theorem d_Program_openBlock_14 : decode b_Program_openBlock 14 = .ok (.aload_n 0, 1) := by decide +kernel
theorem d_Program_openBlock_15 : decode b_Program_openBlock 15 = .ok (.getfield 56, 3) := by decide +kernel
theorem d_Program_openBlock_18 : decode b_Program_openBlock 18 = .ok (.iload_n 1, 1) := by decide +kernel
theorem d_Program_openBlock_19 : decode b_Program_openBlock 19 = .ok (.iastore, 1) := by decide +kernel
theorem d_Program_openBlock_20 : decode b_Program_openBlock 20 = .ok (.aload_n 0, 1) := by decide +kernel
theorem d_Program_openBlock_21 : decode b_Program_openBlock 21 = .ok (.dup, 1) := by decide +kernel
theorem d_Program_openBlock_22 : decode b_Program_openBlock 22 = .ok (.getfield 56, 3) := by decide +kernel
theorem d_Program_openBlock_25 : decode b_Program_openBlock 25 = .ok (.iconst 1, 1) := by decide +kernel
theorem d_Program_openBlock_26 : decode b_Program_openBlock 26 = .ok (.iadd, 1) := by decide +kernel
theorem d_Program_openBlock_27 : decode b_Program_openBlock 27 = .ok (.putfield 56, 3) := by decide +kernel
theorem d_Program_openBlock_30 : decode b_Program_openBlock 30 = .ok (.iconst 1, 1) := by decide +kernel
theorem d_Program_openBlock_31 : decode b_Program_openBlock 31 = .ok (.ireturn, 1) := by decide +kernel
def μ_Program_openBlock : ax_M := (b_Program_openBlock, 2, "DotConsole$Program", (some .boolean), 0, 0, 0, 0)
theorem Y_Program_openBlock : ax_YV μ_Program_openBlock y_Program_openBlock 1 := ⟨⟨ax_mem (by decide +kernel) rfl, ax_mem (by decide +kernel) rfl, by decide, by decide, by decide +kernel⟩, ax_mem (by decide +kernel) rfl, ax_mem (by decide +kernel) rfl⟩
theorem kf_Program_56 : Cond.fieldLink "DotConsole$Program" 56 "DotConsole$Program" "openCount" "I" ∈ ax_T := ax_mem (by decide +kernel) rfl
theorem kf_Program_30 : Cond.fieldLink "DotConsole$Program" 30 "DotConsole$Program" "open" "[I" ∈ ax_T := ax_mem (by decide +kernel) rfl
def J_Program_openBlock (N : Nat) (a1 : Int32) (σ : St) : Option (Int32 × St) :=
  (if (σ.1 18) = 4 then
  some (0, σ)
  else (if (inB (σ.1 18) 4) = true then ax_let (sA σ 18 (σ.1 18).toNatClampNeg a1) (fun σ1 =>
  ax_let (sF σ1 18 ((σ1.1 18) + 1)) (fun σ2 =>
  some (1, σ2))) else none))
set_option maxHeartbeats 1000000 in
theorem c_Program_openBlock {N : Nat} {g : ax_G} {a1 : Int32} {σ : St} {r9 : Int32} {s9 : St} (hJ : J_Program_openBlock N a1 σ = some (r9, s9)) : ax_CI μ_Program_openBlock g y_Program_openBlock (wC g) [.ref (g.2.1 16), .int a1] σ (ax_eqZ r9 s9) := by
  refine ax_CI.of (plainFor_of_name rfl) rfl (Nat.le_of_ble_eq_true rfl) (fun x A _ => ?_)
  show AW x μ_Program_openBlock g A (wC g) (0, 0) (ax_QI x μ_Program_openBlock g A (wC g) (ax_eqZ r9 s9)) 0 [(0, .ref (g.2.1 16)), (1, .int a1)] [] σ
  rw [J_Program_openBlock] at hJ
  refine aw_aload_n (n := 1) d_Program_openBlock_0 rfl rfl 0 rfl ?_
  refine gf_Program_openCount (n := 4) d_Program_openBlock_1 rfl kf_Program_56 ?_
  refine aw_iconst (n := 5) (v := 4) d_Program_openBlock_4 rfl (by decide) ?_
  refine aw_icmp_ne (n := 8) (t := 10) d_Program_openBlock_5 rfl (by decide) (fun c1 => ?_) (fun c1 => ?_)
  · rw [if_neg c1] at hJ
    refine aw_aload_n (n := 11) d_Program_openBlock_10 rfl rfl 0 rfl ?_
    refine gf_Program_open (n := 14) d_Program_openBlock_11 rfl kf_Program_30 ?_
    refine aw_aload_n (n := 15) d_Program_openBlock_14 rfl rfl 0 rfl ?_
    refine gf_Program_openCount (n := 18) d_Program_openBlock_15 rfl kf_Program_56 ?_
    refine aw_iload_n (n := 19) d_Program_openBlock_18 rfl rfl 1 rfl ?_
    obtain ⟨h1, hJ⟩ := ax_need hJ
    refine as_23 (n := 20) d_Program_openBlock_19 rfl h1 ?_
    obtain ⟨σ1, eσ1, hJ⟩ := ax_letE hJ
    refine aw_let eσ1 ?_
    refine aw_aload_n (n := 21) d_Program_openBlock_20 rfl rfl 0 rfl ?_
    refine aw_dup (n := 22) d_Program_openBlock_21 rfl rfl ?_
    refine gf_Program_openCount (n := 25) d_Program_openBlock_22 rfl kf_Program_56 ?_
    refine aw_iconst (n := 26) (v := 1) d_Program_openBlock_25 rfl (by decide) ?_
    refine aw_iadd (n := 27) d_Program_openBlock_26 rfl ?_
    refine pf_Program_openCount (n := 30) d_Program_openBlock_27 rfl kf_Program_56 ?_
    obtain ⟨σ2, eσ2, hJ⟩ := ax_letE hJ
    refine aw_let eσ2 ?_
    refine aw_iconst (n := 31) (v := 1) d_Program_openBlock_30 rfl (by decide) ?_
    exact aw_zret d_Program_openBlock_31 rfl rfl (ax_retZ hJ rfl)
  · rw [if_pos c1] at hJ
    refine aw_iconst (n := 9) (v := 0) d_Program_openBlock_8 rfl (by decide) ?_
    exact aw_zret d_Program_openBlock_9 rfl rfl (ax_retZ hJ rfl)
abbrev b_Program_turnBlock : ByteArray := prog_6_method_6_code
def y_Program_turnBlock : MethodName := ⟨"DotConsole$Program", "turnBlock", "(I)Z"⟩
theorem d_Program_turnBlock_0 : decode b_Program_turnBlock 0 = .ok (.aload_n 0, 1) := by decide +kernel
theorem d_Program_turnBlock_1 : decode b_Program_turnBlock 1 = .ok (.getfield 56, 3) := by decide +kernel
theorem d_Program_turnBlock_4 : decode b_Program_turnBlock 4 = .ok (.ifCond .eq 23, 3) := by decide +kernel
theorem d_Program_turnBlock_7 : decode b_Program_turnBlock 7 = .ok (.aload_n 0, 1) := by decide +kernel
theorem d_Program_turnBlock_8 : decode b_Program_turnBlock 8 = .ok (.getfield 9, 3) := by decide +kernel
theorem d_Program_turnBlock_11 : decode b_Program_turnBlock 11 = .ok (.aload_n 0, 1) := by decide +kernel
theorem d_Program_turnBlock_12 : decode b_Program_turnBlock 12 = .ok (.getfield 30, 3) := by decide +kernel
theorem d_Program_turnBlock_15 : decode b_Program_turnBlock 15 = .ok (.aload_n 0, 1) := by decide +kernel
theorem d_Program_turnBlock_16 : decode b_Program_turnBlock 16 = .ok (.getfield 56, 3) := by decide +kernel
theorem d_Program_turnBlock_19 : decode b_Program_turnBlock 19 = .ok (.iconst 1, 1) := by decide +kernel
theorem d_Program_turnBlock_20 : decode b_Program_turnBlock 20 = .ok (.isub, 1) := by decide +kernel
theorem d_Program_turnBlock_21 : decode b_Program_turnBlock 21 = .ok (.iaload, 1) := by decide +kernel
theorem d_Program_turnBlock_22 : decode b_Program_turnBlock 22 = .ok (.iaload, 1) := by decide +kernel
theorem d_Program_turnBlock_23 : decode b_Program_turnBlock 23 = .ok (.iconst 4, 1) := by decide +kernel
theorem d_Program_turnBlock_24 : decode b_Program_turnBlock 24 = .ok (.if_icmp .eq 5, 3) := by decide +kernel
theorem d_Program_turnBlock_27 : decode b_Program_turnBlock 27 = .ok (.iconst 0, 1) := by decide +kernel
theorem d_Program_turnBlock_28 : decode b_Program_turnBlock 28 = .ok (.ireturn, 1) := by decide +kernel
theorem d_Program_turnBlock_29 : decode b_Program_turnBlock 29 = .ok (.aload_n 0, 1) := by decide +kernel
theorem d_Program_turnBlock_30 : decode b_Program_turnBlock 30 = .ok (.getfield 27, 3) := by decide +kernel
theorem d_Program_turnBlock_33 : decode b_Program_turnBlock 33 = .ok (.aload_n 0, 1) := by decide +kernel
theorem d_Program_turnBlock_34 : decode b_Program_turnBlock 34 = .ok (.getfield 30, 3) := by decide +kernel
theorem d_Program_turnBlock_37 : decode b_Program_turnBlock 37 = .ok (.aload_n 0, 1) := by decide +kernel
theorem d_Program_turnBlock_38 : decode b_Program_turnBlock 38 = .ok (.getfield 56, 3) := by decide +kernel
theorem d_Program_turnBlock_41 : decode b_Program_turnBlock 41 = .ok (.iconst 1, 1) := by decide +kernel
theorem d_Program_turnBlock_42 : decode b_Program_turnBlock 42 = .ok (.isub, 1) := by decide +kernel
theorem d_Program_turnBlock_43 : decode b_Program_turnBlock 43 = .ok (.iaload, 1) := by decide +kernel
theorem d_Program_turnBlock_44 : decode b_Program_turnBlock 44 = .ok (.iload_n 1, 1) := by decide +kernel
theorem d_Program_turnBlock_45 : decode b_Program_turnBlock 45 = .ok (.iconst 1, 1) := by decide +kernel
theorem d_Program_turnBlock_46 : decode b_Program_turnBlock 46 = .ok (.iadd, 1) := by decide +kernel
theorem d_Program_turnBlock_47 : decode b_Program_turnBlock 47 = .ok (.iastore, 1) := by decide +kernel
theorem d_Program_turnBlock_48 : decode b_Program_turnBlock 48 = .ok (.aload_n 0, 1) := by decide +kernel
theorem d_Program_turnBlock_49 : decode b_Program_turnBlock 49 = .ok (.getfield 30, 3) := by decide +kernel
theorem d_Program_turnBlock_52 : decode b_Program_turnBlock 52 = .ok (.aload_n 0, 1) := by decide +kernel
theorem d_Program_turnBlock_53 : decode b_Program_turnBlock 53 = .ok (.getfield 56, 3) := by decide +kernel
theorem d_Program_turnBlock_56 : decode b_Program_turnBlock 56 = .ok (.iconst 1, 1) := by decide +kernel
theorem d_Program_turnBlock_57 : decode b_Program_turnBlock 57 = .ok (.isub, 1) := by decide +kernel
theorem d_Program_turnBlock_58 : decode b_Program_turnBlock 58 = .ok (.iload_n 1, 1) := by decide +kernel
theorem d_Program_turnBlock_59 : decode b_Program_turnBlock 59 = .ok (.iastore, 1) := by decide +kernel
theorem d_Program_turnBlock_60 : decode b_Program_turnBlock 60 = .ok (.iconst 1, 1) := by decide +kernel
theorem d_Program_turnBlock_61 : decode b_Program_turnBlock 61 = .ok (.ireturn, 1) := by decide +kernel
def μ_Program_turnBlock : ax_M := (b_Program_turnBlock, 2, "DotConsole$Program", (some .boolean), 0, 0, 0, 0)
theorem Y_Program_turnBlock : ax_YV μ_Program_turnBlock y_Program_turnBlock 1 := ⟨⟨ax_mem (by decide +kernel) rfl, ax_mem (by decide +kernel) rfl, by decide, by decide, by decide +kernel⟩, ax_mem (by decide +kernel) rfl, ax_mem (by decide +kernel) rfl⟩
theorem kf_Program_27 : Cond.fieldLink "DotConsole$Program" 27 "DotConsole$Program" "jumps" "[I" ∈ ax_T := ax_mem (by decide +kernel) rfl
def J_Program_turnBlock (N : Nat) (a1 : Int32) (σ : St) : Option (Int32 × St) :=
  (if (σ.1 18) = 0 then
  some (0, σ)
  else (if (inB ((σ.1 18) - 1) 4) = true then (if (inB (σ.2 18 ((σ.1 18) - 1).toNatClampNeg) 28) = true then (if (σ.2 12 (σ.2 18 ((σ.1 18) - 1).toNatClampNeg).toNatClampNeg) = 4 then
  (if (inB ((σ.1 18) - 1) 4) = true then (if (inB (σ.2 18 ((σ.1 18) - 1).toNatClampNeg) 28) = true then ax_let (sA σ 17 (σ.2 18 ((σ.1 18) - 1).toNatClampNeg).toNatClampNeg (a1 + 1)) (fun σ1 =>
  (if (inB ((σ1.1 18) - 1) 4) = true then ax_let (sA σ1 18 ((σ1.1 18) - 1).toNatClampNeg a1) (fun σ2 =>
  some (1, σ2)) else none)) else none) else none)
  else some (0, σ)) else none) else none))
set_option maxHeartbeats 1000000 in
theorem c_Program_turnBlock {N : Nat} {g : ax_G} {a1 : Int32} {σ : St} {r9 : Int32} {s9 : St} (hJ : J_Program_turnBlock N a1 σ = some (r9, s9)) : ax_CI μ_Program_turnBlock g y_Program_turnBlock (wC g) [.ref (g.2.1 16), .int a1] σ (ax_eqZ r9 s9) := by
  refine ax_CI.of (plainFor_of_name rfl) rfl (Nat.le_of_ble_eq_true rfl) (fun x A _ => ?_)
  show AW x μ_Program_turnBlock g A (wC g) (0, 0) (ax_QI x μ_Program_turnBlock g A (wC g) (ax_eqZ r9 s9)) 0 [(0, .ref (g.2.1 16)), (1, .int a1)] [] σ
  rw [J_Program_turnBlock] at hJ
  refine aw_aload_n (n := 1) d_Program_turnBlock_0 rfl rfl 0 rfl ?_
  refine gf_Program_openCount (n := 4) d_Program_turnBlock_1 rfl kf_Program_56 ?_
  refine aw_if_eq (n := 7) (t := 27) d_Program_turnBlock_4 rfl (by decide) (fun c1 => ?_) (fun c1 => ?_)
  · rw [if_pos c1] at hJ
    refine aw_iconst (n := 28) (v := 0) d_Program_turnBlock_27 rfl (by decide) ?_
    exact aw_zret d_Program_turnBlock_28 rfl rfl (ax_retZ hJ rfl)
  · rw [if_neg c1] at hJ
    refine aw_aload_n (n := 8) d_Program_turnBlock_7 rfl rfl 0 rfl ?_
    refine gf_Program_statements (n := 11) d_Program_turnBlock_8 rfl kf_Program_9 ?_
    refine aw_aload_n (n := 12) d_Program_turnBlock_11 rfl rfl 0 rfl ?_
    refine gf_Program_open (n := 15) d_Program_turnBlock_12 rfl kf_Program_30 ?_
    refine aw_aload_n (n := 16) d_Program_turnBlock_15 rfl rfl 0 rfl ?_
    refine gf_Program_openCount (n := 19) d_Program_turnBlock_16 rfl kf_Program_56 ?_
    refine aw_iconst (n := 20) (v := 1) d_Program_turnBlock_19 rfl (by decide) ?_
    refine aw_isub (n := 21) d_Program_turnBlock_20 rfl ?_
    obtain ⟨h1, hJ⟩ := ax_need hJ
    refine al_23 (n := 22) d_Program_turnBlock_21 rfl h1 ?_
    obtain ⟨h2, hJ⟩ := ax_need hJ
    refine al_17 (n := 23) d_Program_turnBlock_22 rfl h2 ?_
    refine aw_iconst (n := 24) (v := 4) d_Program_turnBlock_23 rfl (by decide) ?_
    refine aw_icmp_eq (n := 27) (t := 29) d_Program_turnBlock_24 rfl (by decide) (fun c2 => ?_) (fun c2 => ?_)
    · rw [if_pos c2] at hJ
      refine aw_aload_n (n := 30) d_Program_turnBlock_29 rfl rfl 0 rfl ?_
      refine gf_Program_jumps (n := 33) d_Program_turnBlock_30 rfl kf_Program_27 ?_
      refine aw_aload_n (n := 34) d_Program_turnBlock_33 rfl rfl 0 rfl ?_
      refine gf_Program_open (n := 37) d_Program_turnBlock_34 rfl kf_Program_30 ?_
      refine aw_aload_n (n := 38) d_Program_turnBlock_37 rfl rfl 0 rfl ?_
      refine gf_Program_openCount (n := 41) d_Program_turnBlock_38 rfl kf_Program_56 ?_
      refine aw_iconst (n := 42) (v := 1) d_Program_turnBlock_41 rfl (by decide) ?_
      refine aw_isub (n := 43) d_Program_turnBlock_42 rfl ?_
      obtain ⟨h3, hJ⟩ := ax_need hJ
      refine al_23 (n := 44) d_Program_turnBlock_43 rfl h3 ?_
      refine aw_iload_n (n := 45) d_Program_turnBlock_44 rfl rfl 1 rfl ?_
      refine aw_iconst (n := 46) (v := 1) d_Program_turnBlock_45 rfl (by decide) ?_
      refine aw_iadd (n := 47) d_Program_turnBlock_46 rfl ?_
      obtain ⟨h4, hJ⟩ := ax_need hJ
      refine as_22 (n := 48) d_Program_turnBlock_47 rfl h4 ?_
      obtain ⟨σ1, eσ1, hJ⟩ := ax_letE hJ
      refine aw_let eσ1 ?_
      refine aw_aload_n (n := 49) d_Program_turnBlock_48 rfl rfl 0 rfl ?_
      refine gf_Program_open (n := 52) d_Program_turnBlock_49 rfl kf_Program_30 ?_
      refine aw_aload_n (n := 53) d_Program_turnBlock_52 rfl rfl 0 rfl ?_
      refine gf_Program_openCount (n := 56) d_Program_turnBlock_53 rfl kf_Program_56 ?_
      refine aw_iconst (n := 57) (v := 1) d_Program_turnBlock_56 rfl (by decide) ?_
      refine aw_isub (n := 58) d_Program_turnBlock_57 rfl ?_
      refine aw_iload_n (n := 59) d_Program_turnBlock_58 rfl rfl 1 rfl ?_
      obtain ⟨h5, hJ⟩ := ax_need hJ
      refine as_23 (n := 60) d_Program_turnBlock_59 rfl h5 ?_
      obtain ⟨σ2, eσ2, hJ⟩ := ax_letE hJ
      refine aw_let eσ2 ?_
      refine aw_iconst (n := 61) (v := 1) d_Program_turnBlock_60 rfl (by decide) ?_
      exact aw_zret d_Program_turnBlock_61 rfl rfl (ax_retZ hJ rfl)
    · rw [if_neg c2] at hJ
      refine aw_iconst (n := 28) (v := 0) d_Program_turnBlock_27 rfl (by decide) ?_
      exact aw_zret d_Program_turnBlock_28 rfl rfl (ax_retZ hJ rfl)
abbrev b_Program_closeBlock : ByteArray := prog_6_method_7_code
def y_Program_closeBlock : MethodName := ⟨"DotConsole$Program", "closeBlock", "(I)Z"⟩
theorem d_Program_closeBlock_0 : decode b_Program_closeBlock 0 = .ok (.aload_n 0, 1) := by decide +kernel
theorem d_Program_closeBlock_1 : decode b_Program_closeBlock 1 = .ok (.getfield 56, 3) := by decide +kernel
theorem d_Program_closeBlock_4 : decode b_Program_closeBlock 4 = .ok (.ifCond .ne 5, 3) := by decide +kernel
theorem d_Program_closeBlock_7 : decode b_Program_closeBlock 7 = .ok (.iconst 0, 1) := by decide +kernel
theorem d_Program_closeBlock_8 : decode b_Program_closeBlock 8 = .ok (.ireturn, 1) := by decide +kernel
theorem d_Program_closeBlock_9 : decode b_Program_closeBlock 9 = .ok (.aload_n 0, 1) := by decide +kernel
theorem d_Program_closeBlock_10 : decode b_Program_closeBlock 10 = .ok (.dup, 1) := by decide +kernel
theorem d_Program_closeBlock_11 : decode b_Program_closeBlock 11 = .ok (.getfield 56, 3) := by decide +kernel
theorem d_Program_closeBlock_14 : decode b_Program_closeBlock 14 = .ok (.iconst 1, 1) := by decide +kernel
theorem d_Program_closeBlock_15 : decode b_Program_closeBlock 15 = .ok (.isub, 1) := by decide +kernel
theorem d_Program_closeBlock_16 : decode b_Program_closeBlock 16 = .ok (.putfield 56, 3) := by decide +kernel
theorem d_Program_closeBlock_19 : decode b_Program_closeBlock 19 = .ok (.aload_n 0, 1) := by decide +kernel
theorem d_Program_closeBlock_20 : decode b_Program_closeBlock 20 = .ok (.getfield 30, 3) := by decide +kernel
theorem d_Program_closeBlock_23 : decode b_Program_closeBlock 23 = .ok (.aload_n 0, 1) := by decide +kernel
theorem d_Program_closeBlock_24 : decode b_Program_closeBlock 24 = .ok (.getfield 56, 3) := by decide +kernel
theorem d_Program_closeBlock_27 : decode b_Program_closeBlock 27 = .ok (.iaload, 1) := by decide +kernel
theorem d_Program_closeBlock_28 : decode b_Program_closeBlock 28 = .ok (.istore_n 2, 1) := by decide +kernel
theorem d_Program_closeBlock_29 : decode b_Program_closeBlock 29 = .ok (.aload_n 0, 1) := by decide +kernel
theorem d_Program_closeBlock_30 : decode b_Program_closeBlock 30 = .ok (.getfield 27, 3) := by decide +kernel
theorem d_Program_closeBlock_33 : decode b_Program_closeBlock 33 = .ok (.iload_n 2, 1) := by decide +kernel
theorem d_Program_closeBlock_34 : decode b_Program_closeBlock 34 = .ok (.iload_n 1, 1) := by decide +kernel
theorem d_Program_closeBlock_35 : decode b_Program_closeBlock 35 = .ok (.iconst 1, 1) := by decide +kernel
theorem d_Program_closeBlock_36 : decode b_Program_closeBlock 36 = .ok (.iadd, 1) := by decide +kernel
theorem d_Program_closeBlock_37 : decode b_Program_closeBlock 37 = .ok (.iastore, 1) := by decide +kernel
theorem d_Program_closeBlock_38 : decode b_Program_closeBlock 38 = .ok (.aload_n 0, 1) := by decide +kernel
theorem d_Program_closeBlock_39 : decode b_Program_closeBlock 39 = .ok (.getfield 27, 3) := by decide +kernel
theorem d_Program_closeBlock_42 : decode b_Program_closeBlock 42 = .ok (.iload_n 1, 1) := by decide +kernel
theorem d_Program_closeBlock_43 : decode b_Program_closeBlock 43 = .ok (.aload_n 0, 1) := by decide +kernel
theorem d_Program_closeBlock_44 : decode b_Program_closeBlock 44 = .ok (.getfield 9, 3) := by decide +kernel
theorem d_Program_closeBlock_47 : decode b_Program_closeBlock 47 = .ok (.iload_n 2, 1) := by decide +kernel
theorem d_Program_closeBlock_48 : decode b_Program_closeBlock 48 = .ok (.iaload, 1) := by decide +kernel
theorem d_Program_closeBlock_49 : decode b_Program_closeBlock 49 = .ok (.bipush 6, 2) := by decide +kernel
theorem d_Program_closeBlock_51 : decode b_Program_closeBlock 51 = .ok (.if_icmp .ne 7, 3) := by decide +kernel
theorem d_Program_closeBlock_54 : decode b_Program_closeBlock 54 = .ok (.iload_n 2, 1) := by decide +kernel
theorem d_Program_closeBlock_55 : decode b_Program_closeBlock 55 = .ok (.goto 6, 3) := by decide +kernel
theorem d_Program_closeBlock_58 : decode b_Program_closeBlock 58 = .ok (.iload_n 1, 1) := by decide +kernel
theorem d_Program_closeBlock_59 : decode b_Program_closeBlock 59 = .ok (.iconst 1, 1) := by decide +kernel
theorem d_Program_closeBlock_60 : decode b_Program_closeBlock 60 = .ok (.iadd, 1) := by decide +kernel
theorem d_Program_closeBlock_61 : decode b_Program_closeBlock 61 = .ok (.iastore, 1) := by decide +kernel
theorem d_Program_closeBlock_62 : decode b_Program_closeBlock 62 = .ok (.iconst 1, 1) := by decide +kernel
theorem d_Program_closeBlock_63 : decode b_Program_closeBlock 63 = .ok (.ireturn, 1) := by decide +kernel
def μ_Program_closeBlock : ax_M := (b_Program_closeBlock, 3, "DotConsole$Program", (some .boolean), 0, 0, 0, 0)
theorem Y_Program_closeBlock : ax_YV μ_Program_closeBlock y_Program_closeBlock 1 := ⟨⟨ax_mem (by decide +kernel) rfl, ax_mem (by decide +kernel) rfl, by decide, by decide, by decide +kernel⟩, ax_mem (by decide +kernel) rfl, ax_mem (by decide +kernel) rfl⟩
def J_Program_closeBlock (N : Nat) (a1 : Int32) (σ : St) : Option (Int32 × St) :=
  (if (σ.1 18) = 0 then
  some (0, σ)
  else ax_let (sF σ 18 ((σ.1 18) - 1)) (fun σ1 =>
  (if (inB (σ1.1 18) 4) = true then ax_let ((σ1.2 18 (σ1.1 18).toNatClampNeg) : Int32) (fun v1 =>
  (if (inB v1 28) = true then ax_let (sA σ1 17 v1.toNatClampNeg (a1 + 1)) (fun σ2 =>
  (if (inB v1 28) = true then (if (σ2.2 12 v1.toNatClampNeg) = 6 then
  (if (inB a1 28) = true then ax_let (sA σ2 17 a1.toNatClampNeg v1) (fun σ4 =>
  some (1, σ4)) else none)
  else (if (inB a1 28) = true then ax_let (sA σ2 17 a1.toNatClampNeg (a1 + 1)) (fun σ3 =>
  some (1, σ3)) else none)) else none)) else none)) else none)))
set_option maxHeartbeats 1000000 in
theorem c_Program_closeBlock {N : Nat} {g : ax_G} {a1 : Int32} {σ : St} {r9 : Int32} {s9 : St} (hJ : J_Program_closeBlock N a1 σ = some (r9, s9)) : ax_CI μ_Program_closeBlock g y_Program_closeBlock (wC g) [.ref (g.2.1 16), .int a1] σ (ax_eqZ r9 s9) := by
  refine ax_CI.of (plainFor_of_name rfl) rfl (Nat.le_of_ble_eq_true rfl) (fun x A _ => ?_)
  show AW x μ_Program_closeBlock g A (wC g) (0, 0) (ax_QI x μ_Program_closeBlock g A (wC g) (ax_eqZ r9 s9)) 0 [(0, .ref (g.2.1 16)), (1, .int a1)] [] σ
  rw [J_Program_closeBlock] at hJ
  refine aw_aload_n (n := 1) d_Program_closeBlock_0 rfl rfl 0 rfl ?_
  refine gf_Program_openCount (n := 4) d_Program_closeBlock_1 rfl kf_Program_56 ?_
  refine aw_if_ne (n := 7) (t := 9) d_Program_closeBlock_4 rfl (by decide) (fun c1 => ?_) (fun c1 => ?_)
  · rw [if_neg c1] at hJ
    refine aw_aload_n (n := 10) d_Program_closeBlock_9 rfl rfl 0 rfl ?_
    refine aw_dup (n := 11) d_Program_closeBlock_10 rfl rfl ?_
    refine gf_Program_openCount (n := 14) d_Program_closeBlock_11 rfl kf_Program_56 ?_
    refine aw_iconst (n := 15) (v := 1) d_Program_closeBlock_14 rfl (by decide) ?_
    refine aw_isub (n := 16) d_Program_closeBlock_15 rfl ?_
    refine pf_Program_openCount (n := 19) d_Program_closeBlock_16 rfl kf_Program_56 ?_
    obtain ⟨σ1, eσ1, hJ⟩ := ax_letE hJ
    refine aw_let eσ1 ?_
    refine aw_aload_n (n := 20) d_Program_closeBlock_19 rfl rfl 0 rfl ?_
    refine gf_Program_open (n := 23) d_Program_closeBlock_20 rfl kf_Program_30 ?_
    refine aw_aload_n (n := 24) d_Program_closeBlock_23 rfl rfl 0 rfl ?_
    refine gf_Program_openCount (n := 27) d_Program_closeBlock_24 rfl kf_Program_56 ?_
    obtain ⟨h1, hJ⟩ := ax_need hJ
    refine al_23 (n := 28) d_Program_closeBlock_27 rfl h1 ?_
    obtain ⟨v1, ev1, hJ⟩ := ax_letE hJ
    refine aw_top ev1 ?_
    refine aw_istore_n (n := 29) d_Program_closeBlock_28 rfl rfl (by decide) rfl ?_
    refine aw_aload_n (n := 30) d_Program_closeBlock_29 rfl rfl 1 rfl ?_
    refine gf_Program_jumps (n := 33) d_Program_closeBlock_30 rfl kf_Program_27 ?_
    refine aw_iload_n (n := 34) d_Program_closeBlock_33 rfl rfl 0 rfl ?_
    refine aw_iload_n (n := 35) d_Program_closeBlock_34 rfl rfl 2 rfl ?_
    refine aw_iconst (n := 36) (v := 1) d_Program_closeBlock_35 rfl (by decide) ?_
    refine aw_iadd (n := 37) d_Program_closeBlock_36 rfl ?_
    obtain ⟨h2, hJ⟩ := ax_need hJ
    refine as_22 (n := 38) d_Program_closeBlock_37 rfl h2 ?_
    obtain ⟨σ2, eσ2, hJ⟩ := ax_letE hJ
    refine aw_let eσ2 ?_
    refine aw_aload_n (n := 39) d_Program_closeBlock_38 rfl rfl 1 rfl ?_
    refine gf_Program_jumps (n := 42) d_Program_closeBlock_39 rfl kf_Program_27 ?_
    refine aw_iload_n (n := 43) d_Program_closeBlock_42 rfl rfl 2 rfl ?_
    refine aw_aload_n (n := 44) d_Program_closeBlock_43 rfl rfl 1 rfl ?_
    refine gf_Program_statements (n := 47) d_Program_closeBlock_44 rfl kf_Program_9 ?_
    refine aw_iload_n (n := 48) d_Program_closeBlock_47 rfl rfl 0 rfl ?_
    obtain ⟨h3, hJ⟩ := ax_need hJ
    refine al_17 (n := 49) d_Program_closeBlock_48 rfl h3 ?_
    refine aw_bipush (n := 51) (v := 6) d_Program_closeBlock_49 rfl (by decide) ?_
    refine aw_icmp_ne (n := 54) (t := 58) d_Program_closeBlock_51 rfl (by decide) (fun c2 => ?_) (fun c2 => ?_)
    · rw [if_neg c2] at hJ
      refine aw_iload_n (n := 59) d_Program_closeBlock_58 rfl rfl 2 rfl ?_
      refine aw_iconst (n := 60) (v := 1) d_Program_closeBlock_59 rfl (by decide) ?_
      refine aw_iadd (n := 61) d_Program_closeBlock_60 rfl ?_
      obtain ⟨h4, hJ⟩ := ax_need hJ
      refine as_22 (n := 62) d_Program_closeBlock_61 rfl h4 ?_
      obtain ⟨σ3, eσ3, hJ⟩ := ax_letE hJ
      refine aw_let eσ3 ?_
      refine aw_iconst (n := 63) (v := 1) d_Program_closeBlock_62 rfl (by decide) ?_
      exact aw_zret d_Program_closeBlock_63 rfl rfl (ax_retZ hJ rfl)
    · rw [if_pos c2] at hJ
      refine aw_iload_n (n := 55) d_Program_closeBlock_54 rfl rfl 0 rfl ?_
      refine aw_goto (t := 61) d_Program_closeBlock_55 (by decide) ?_
      obtain ⟨h5, hJ⟩ := ax_need hJ
      refine as_22 (n := 62) d_Program_closeBlock_61 rfl h5 ?_
      obtain ⟨σ4, eσ4, hJ⟩ := ax_letE hJ
      refine aw_let eσ4 ?_
      refine aw_iconst (n := 63) (v := 1) d_Program_closeBlock_62 rfl (by decide) ?_
      exact aw_zret d_Program_closeBlock_63 rfl rfl (ax_retZ hJ rfl)
  · rw [if_pos c1] at hJ
    refine aw_iconst (n := 8) (v := 0) d_Program_closeBlock_7 rfl (by decide) ?_
    exact aw_zret d_Program_closeBlock_8 rfl rfl (ax_retZ hJ rfl)
abbrev b_Program_fits : ByteArray := prog_6_method_4_code
def y_Program_fits : MethodName := ⟨"DotConsole$Program", "fits", "(I)Z"⟩
theorem d_Program_fits_0 : decode b_Program_fits 0 = .ok (.aload_n 0, 1) := by decide +kernel
theorem d_Program_fits_1 : decode b_Program_fits 1 = .ok (.getfield 9, 3) := by decide +kernel
theorem d_Program_fits_4 : decode b_Program_fits 4 = .ok (.iload_n 1, 1) := by decide +kernel
theorem d_Program_fits_5 : decode b_Program_fits 5 = .ok (.iaload, 1) := by decide +kernel
theorem d_Program_fits_6 : decode b_Program_fits 6 = .ok (.tableswitch 48 4 7 #[30, 36, 30, 42], 30) := by decide +kernel
theorem d_Program_fits_36 : decode b_Program_fits 36 = .ok (.aload_n 0, 1) := by decide +kernel
theorem d_Program_fits_37 : decode b_Program_fits 37 = .ok (.iload_n 1, 1) := by decide +kernel
theorem d_Program_fits_38 : decode b_Program_fits 38 = .ok (.invokevirtual 63, 3) := by decide +kernel
theorem d_Program_fits_41 : decode b_Program_fits 41 = .ok (.ireturn, 1) := by decide +kernel
theorem d_Program_fits_42 : decode b_Program_fits 42 = .ok (.aload_n 0, 1) := by decide +kernel
theorem d_Program_fits_43 : decode b_Program_fits 43 = .ok (.iload_n 1, 1) := by decide +kernel
theorem d_Program_fits_44 : decode b_Program_fits 44 = .ok (.invokevirtual 66, 3) := by decide +kernel
theorem d_Program_fits_47 : decode b_Program_fits 47 = .ok (.ireturn, 1) := by decide +kernel
theorem d_Program_fits_48 : decode b_Program_fits 48 = .ok (.aload_n 0, 1) := by decide +kernel
theorem d_Program_fits_49 : decode b_Program_fits 49 = .ok (.iload_n 1, 1) := by decide +kernel
theorem d_Program_fits_50 : decode b_Program_fits 50 = .ok (.invokevirtual 69, 3) := by decide +kernel
theorem d_Program_fits_53 : decode b_Program_fits 53 = .ok (.ireturn, 1) := by decide +kernel
theorem d_Program_fits_54 : decode b_Program_fits 54 = .ok (.iconst 1, 1) := by decide +kernel
theorem d_Program_fits_55 : decode b_Program_fits 55 = .ok (.ireturn, 1) := by decide +kernel
def μ_Program_fits : ax_M := (b_Program_fits, 2, "DotConsole$Program", (some .boolean), 1, 22, 0, 0)
theorem Y_Program_fits : ax_YV μ_Program_fits y_Program_fits 1 := ⟨⟨ax_mem (by decide +kernel) rfl, ax_mem (by decide +kernel) rfl, by decide, by decide, by decide +kernel⟩, ax_mem (by decide +kernel) rfl, ax_mem (by decide +kernel) rfl⟩
theorem km_Program_63 : Cond.methodLink "DotConsole$Program" 63 ⟨"DotConsole$Program", "openBlock", "(I)Z"⟩ ∈ ax_T := ax_mem (by decide +kernel) rfl
theorem km_Program_66 : Cond.methodLink "DotConsole$Program" 66 ⟨"DotConsole$Program", "turnBlock", "(I)Z"⟩ ∈ ax_T := ax_mem (by decide +kernel) rfl
theorem km_Program_69 : Cond.methodLink "DotConsole$Program" 69 ⟨"DotConsole$Program", "closeBlock", "(I)Z"⟩ ∈ ax_T := ax_mem (by decide +kernel) rfl
def J_Program_fits (N : Nat) (a1 : Int32) (σ : St) : Option (Int32 × St) :=
  (if (inB a1 28) = true then (if (σ.2 12 a1.toNatClampNeg) = 4 then ax_bind (J_Program_openBlock N a1 σ) (fun r1 σ1 =>
  some (r1, σ1))
  else (if (σ.2 12 a1.toNatClampNeg) = 5 then ax_bind (J_Program_turnBlock N a1 σ) (fun r2 σ2 =>
  some (r2, σ2))
  else (if (σ.2 12 a1.toNatClampNeg) = 6 then ax_bind (J_Program_openBlock N a1 σ) (fun r3 σ3 =>
  some (r3, σ3))
  else (if (σ.2 12 a1.toNatClampNeg) = 7 then ax_bind (J_Program_closeBlock N a1 σ) (fun r4 σ4 =>
  some (r4, σ4))
  else some (1, σ))))) else none)
set_option maxHeartbeats 1000000 in
theorem c_Program_fits {N : Nat} {g : ax_G} {a1 : Int32} {σ : St} {r9 : Int32} {s9 : St} (hJ : J_Program_fits N a1 σ = some (r9, s9)) : ax_CI μ_Program_fits g y_Program_fits (wC g) [.ref (g.2.1 16), .int a1] σ (ax_eqZ r9 s9) := by
  refine ax_CI.of (plainFor_of_name rfl) rfl (Nat.le_of_ble_eq_true rfl) (fun x A _ => ?_)
  show AW x μ_Program_fits g A (wC g) (0, 0) (ax_QI x μ_Program_fits g A (wC g) (ax_eqZ r9 s9)) 0 [(0, .ref (g.2.1 16)), (1, .int a1)] [] σ
  rw [J_Program_fits] at hJ
  refine aw_aload_n (n := 1) d_Program_fits_0 rfl rfl 0 rfl ?_
  refine gf_Program_statements (n := 4) d_Program_fits_1 rfl kf_Program_9 ?_
  refine aw_iload_n (n := 5) d_Program_fits_4 rfl rfl 1 rfl ?_
  obtain ⟨h1, hJ⟩ := ax_need hJ
  refine al_17 (n := 6) d_Program_fits_5 rfl h1 ?_
  rcases ax_ifE hJ with ⟨c1, hJ⟩ | ⟨c1, hJ⟩
  · refine aw_tableIn (t := 36) (off := 30) d_Program_fits_6 (by rw [c1]; decide) (by rw [c1]; decide) (by first | (rw [c1]; done) | (rw [c1]; decide)) (by decide) ?_
    refine aw_aload_n (n := 37) d_Program_fits_36 rfl rfl 0 rfl ?_
    refine aw_iload_n (n := 38) d_Program_fits_37 rfl rfl 1 rfl ?_
    obtain ⟨r1, σ1, hc1, hJ⟩ := ax_bindE hJ
    refine aw_callVi (n := 41) (c_Program_openBlock hc1) 16 rfl rfl Y_Program_openBlock km_Program_63 (by decide) (by decide) rfl rfl (Nat.le_of_ble_eq_true rfl) d_Program_fits_38 rfl (fun r9 s9 hp => ?_)
    obtain ⟨rfl, rfl, hb1⟩ := hp
    exact aw_zret d_Program_fits_41 rfl hb1 (ax_retZ hJ hb1)
  rcases ax_ifE hJ with ⟨c2, hJ⟩ | ⟨c2, hJ⟩
  · refine aw_tableIn (t := 42) (off := 36) d_Program_fits_6 (by rw [c2]; decide) (by rw [c2]; decide) (by first | (rw [c2]; done) | (rw [c2]; decide)) (by decide) ?_
    refine aw_aload_n (n := 43) d_Program_fits_42 rfl rfl 0 rfl ?_
    refine aw_iload_n (n := 44) d_Program_fits_43 rfl rfl 1 rfl ?_
    obtain ⟨r2, σ2, hc2, hJ⟩ := ax_bindE hJ
    refine aw_callVi (n := 47) (c_Program_turnBlock hc2) 16 rfl rfl Y_Program_turnBlock km_Program_66 (by decide) (by decide) rfl rfl (Nat.le_of_ble_eq_true rfl) d_Program_fits_44 rfl (fun r9 s9 hp => ?_)
    obtain ⟨rfl, rfl, hb2⟩ := hp
    exact aw_zret d_Program_fits_47 rfl hb2 (ax_retZ hJ hb2)
  rcases ax_ifE hJ with ⟨c3, hJ⟩ | ⟨c3, hJ⟩
  · refine aw_tableIn (t := 36) (off := 30) d_Program_fits_6 (by rw [c3]; decide) (by rw [c3]; decide) (by first | (rw [c3]; done) | (rw [c3]; decide)) (by decide) ?_
    refine aw_aload_n (n := 37) d_Program_fits_36 rfl rfl 0 rfl ?_
    refine aw_iload_n (n := 38) d_Program_fits_37 rfl rfl 1 rfl ?_
    obtain ⟨r3, σ3, hc3, hJ⟩ := ax_bindE hJ
    refine aw_callVi (n := 41) (c_Program_openBlock hc3) 16 rfl rfl Y_Program_openBlock km_Program_63 (by decide) (by decide) rfl rfl (Nat.le_of_ble_eq_true rfl) d_Program_fits_38 rfl (fun r9 s9 hp => ?_)
    obtain ⟨rfl, rfl, hb3⟩ := hp
    exact aw_zret d_Program_fits_41 rfl hb3 (ax_retZ hJ hb3)
  rcases ax_ifE hJ with ⟨c4, hJ⟩ | ⟨c4, hJ⟩
  · refine aw_tableIn (t := 48) (off := 42) d_Program_fits_6 (by rw [c4]; decide) (by rw [c4]; decide) (by first | (rw [c4]; done) | (rw [c4]; decide)) (by decide) ?_
    refine aw_aload_n (n := 49) d_Program_fits_48 rfl rfl 0 rfl ?_
    refine aw_iload_n (n := 50) d_Program_fits_49 rfl rfl 1 rfl ?_
    obtain ⟨r4, σ4, hc4, hJ⟩ := ax_bindE hJ
    refine aw_callVi (n := 53) (c_Program_closeBlock hc4) 16 rfl rfl Y_Program_closeBlock km_Program_69 (by decide) (by decide) rfl rfl (Nat.le_of_ble_eq_true rfl) d_Program_fits_50 rfl (fun r9 s9 hp => ?_)
    obtain ⟨rfl, rfl, hb4⟩ := hp
    exact aw_zret d_Program_fits_53 rfl hb4 (ax_retZ hJ hb4)
  have q0 := lv_neT (a := 4) c1 (by decide)
  have q1 := lv_neT (a := 5) c2 (by decide)
  have q2 := lv_neT (a := 6) c3 (by decide)
  have q3 := lv_neT (a := 7) c4 (by decide)
  refine aw_tableOut (t := 54) d_Program_fits_6 (by omega) (by decide) ?_
  refine aw_iconst (n := 55) (v := 1) d_Program_fits_54 rfl (by decide) ?_
  exact aw_zret d_Program_fits_55 rfl rfl (ax_retZ hJ rfl)
abbrev b_Program_findWrongLine : ByteArray := prog_6_method_3_code
def y_Program_findWrongLine : MethodName := ⟨"DotConsole$Program", "findWrongLine", "()I"⟩
theorem d_Program_findWrongLine_0 : decode b_Program_findWrongLine 0 = .ok (.aload_n 0, 1) := by decide +kernel
theorem d_Program_findWrongLine_1 : decode b_Program_findWrongLine 1 = .ok (.iconst 0, 1) := by decide +kernel
theorem d_Program_findWrongLine_2 : decode b_Program_findWrongLine 2 = .ok (.putfield 56, 3) := by decide +kernel
theorem d_Program_findWrongLine_5 : decode b_Program_findWrongLine 5 = .ok (.iconst 0, 1) := by decide +kernel
theorem d_Program_findWrongLine_6 : decode b_Program_findWrongLine 6 = .ok (.istore_n 1, 1) := by decide +kernel
theorem d_Program_findWrongLine_7 : decode b_Program_findWrongLine 7 = .ok (.iload_n 1, 1) := by decide +kernel
theorem d_Program_findWrongLine_8 : decode b_Program_findWrongLine 8 = .ok (.aload_n 0, 1) := by decide +kernel
theorem d_Program_findWrongLine_9 : decode b_Program_findWrongLine 9 = .ok (.getfield 33, 3) := by decide +kernel
theorem d_Program_findWrongLine_12 : decode b_Program_findWrongLine 12 = .ok (.if_icmp .ge 21, 3) := by decide +kernel
theorem d_Program_findWrongLine_15 : decode b_Program_findWrongLine 15 = .ok (.aload_n 0, 1) := by decide +kernel
theorem d_Program_findWrongLine_16 : decode b_Program_findWrongLine 16 = .ok (.iload_n 1, 1) := by decide +kernel
theorem d_Program_findWrongLine_17 : decode b_Program_findWrongLine 17 = .ok (.invokevirtual 59, 3) := by decide +kernel
theorem d_Program_findWrongLine_20 : decode b_Program_findWrongLine 20 = .ok (.ifCond .ne 7, 3) := by decide +kernel
theorem d_Program_findWrongLine_23 : decode b_Program_findWrongLine 23 = .ok (.iload_n 1, 1) := by decide +kernel
theorem d_Program_findWrongLine_24 : decode b_Program_findWrongLine 24 = .ok (.iconst 1, 1) := by decide +kernel
theorem d_Program_findWrongLine_25 : decode b_Program_findWrongLine 25 = .ok (.iadd, 1) := by decide +kernel
theorem d_Program_findWrongLine_26 : decode b_Program_findWrongLine 26 = .ok (.ireturn, 1) := by decide +kernel
theorem d_Program_findWrongLine_27 : decode b_Program_findWrongLine 27 = .ok (.iinc 1 1, 3) := by decide +kernel
theorem d_Program_findWrongLine_30 : decode b_Program_findWrongLine 30 = .ok (.goto (-23), 3) := by decide +kernel
theorem d_Program_findWrongLine_33 : decode b_Program_findWrongLine 33 = .ok (.aload_n 0, 1) := by decide +kernel
theorem d_Program_findWrongLine_34 : decode b_Program_findWrongLine 34 = .ok (.getfield 56, 3) := by decide +kernel
theorem d_Program_findWrongLine_37 : decode b_Program_findWrongLine 37 = .ok (.ifCond .ne 7, 3) := by decide +kernel
theorem d_Program_findWrongLine_40 : decode b_Program_findWrongLine 40 = .ok (.iconst 0, 1) := by decide +kernel
theorem d_Program_findWrongLine_41 : decode b_Program_findWrongLine 41 = .ok (.goto 9, 3) := by decide +kernel
theorem d_Program_findWrongLine_44 : decode b_Program_findWrongLine 44 = .ok (.aload_n 0, 1) := by decide +kernel
theorem d_Program_findWrongLine_45 : decode b_Program_findWrongLine 45 = .ok (.getfield 33, 3) := by decide +kernel
theorem d_Program_findWrongLine_48 : decode b_Program_findWrongLine 48 = .ok (.iconst 1, 1) := by decide +kernel
theorem d_Program_findWrongLine_49 : decode b_Program_findWrongLine 49 = .ok (.iadd, 1) := by decide +kernel
theorem d_Program_findWrongLine_50 : decode b_Program_findWrongLine 50 = .ok (.ireturn, 1) := by decide +kernel
def μ_Program_findWrongLine : ax_M := (b_Program_findWrongLine, 2, "DotConsole$Program", (some .int), 2, 43, 0, 0)
theorem Y_Program_findWrongLine : ax_YV μ_Program_findWrongLine y_Program_findWrongLine 0 := ⟨⟨ax_mem (by decide +kernel) rfl, ax_mem (by decide +kernel) rfl, by decide, by decide, by decide +kernel⟩, ax_mem (by decide +kernel) rfl, ax_mem (by decide +kernel) rfl⟩
theorem km_Program_59 : Cond.methodLink "DotConsole$Program" 59 ⟨"DotConsole$Program", "fits", "(I)Z"⟩ ∈ ax_T := ax_mem (by decide +kernel) rfl
def J_Program_findWrongLine_7 (N : Nat) : Nat → Int32 → St → Option (Int32 × St)
  | 0, _, _ => none
  | n + 1, l1, σ => (if (σ.1 16) ≤ l1 then
  (if (σ.1 18) = 0 then
  some (0, σ)
  else some (((σ.1 16) + 1), σ))
  else ax_bind (J_Program_fits N l1 σ) (fun r1 σ2 =>
  (if r1 = 0 then
  some ((l1 + 1), σ2)
  else ax_let ((l1 + 1) : Int32) (fun v1 =>
  J_Program_findWrongLine_7 N n v1 σ2))))
def J_Program_findWrongLine (N : Nat) (σ : St) : Option (Int32 × St) :=
  ax_let (sF σ 18 0) (fun σ1 =>
  J_Program_findWrongLine_7 N N 0 σ1)
set_option maxHeartbeats 1000000 in
theorem t_Program_findWrongLine_7 {N : Nat} {g : ax_G} {r9 : Int32} {s9 : St} (x : ax_X) (A : Nat → Prop) : ∀ (n : Nat) (l1 : Int32) (σ : St), J_Program_findWrongLine_7 N n l1 σ = some (r9, s9) → AW x μ_Program_findWrongLine g A (wC g) (0, 0) (ax_QI x μ_Program_findWrongLine g A (wC g) (ax_eqI r9 s9)) 7 [(0, .ref (g.2.1 16)), (1, .int l1)] [] σ := by
  intro n
  induction n with
  | zero => intro l1 σ hJ; rw [J_Program_findWrongLine_7] at hJ; cases hJ
  | succ n ih =>
    intro l1 σ hJ
    rw [J_Program_findWrongLine_7] at hJ
    refine aw_iload_n (n := 8) d_Program_findWrongLine_7 rfl rfl 1 rfl ?_
    refine aw_aload_n (n := 9) d_Program_findWrongLine_8 rfl rfl 0 rfl ?_
    refine gf_Program_lines (n := 12) d_Program_findWrongLine_9 rfl kf_Program_33 ?_
    refine aw_icmp_ge (n := 15) (t := 33) d_Program_findWrongLine_12 rfl (by decide) (fun c1 => ?_) (fun c1 => ?_)
    · rw [if_pos c1] at hJ
      refine aw_aload_n (n := 34) d_Program_findWrongLine_33 rfl rfl 0 rfl ?_
      refine gf_Program_openCount (n := 37) d_Program_findWrongLine_34 rfl kf_Program_56 ?_
      refine aw_if_ne (n := 40) (t := 44) d_Program_findWrongLine_37 rfl (by decide) (fun c2 => ?_) (fun c2 => ?_)
      · rw [if_neg c2] at hJ
        refine aw_aload_n (n := 45) d_Program_findWrongLine_44 rfl rfl 0 rfl ?_
        refine gf_Program_lines (n := 48) d_Program_findWrongLine_45 rfl kf_Program_33 ?_
        refine aw_iconst (n := 49) (v := 1) d_Program_findWrongLine_48 rfl (by decide) ?_
        refine aw_iadd (n := 50) d_Program_findWrongLine_49 rfl ?_
        exact aw_iret d_Program_findWrongLine_50 rfl (ax_ret hJ)
      · rw [if_pos c2] at hJ
        refine aw_iconst (n := 41) (v := 0) d_Program_findWrongLine_40 rfl (by decide) ?_
        refine aw_goto (t := 50) d_Program_findWrongLine_41 (by decide) ?_
        exact aw_iret d_Program_findWrongLine_50 rfl (ax_ret hJ)
    · rw [if_neg c1] at hJ
      refine aw_aload_n (n := 16) d_Program_findWrongLine_15 rfl rfl 0 rfl ?_
      refine aw_iload_n (n := 17) d_Program_findWrongLine_16 rfl rfl 1 rfl ?_
      obtain ⟨r1, σ2, hc1, hJ⟩ := ax_bindE hJ
      refine aw_callVi (n := 20) (c_Program_fits hc1) 16 rfl rfl Y_Program_fits km_Program_59 (by decide) (by decide) rfl rfl (Nat.le_of_ble_eq_true rfl) d_Program_findWrongLine_17 rfl (fun r9 s9 hp => ?_)
      obtain ⟨rfl, rfl, hb1⟩ := hp
      refine aw_if_ne (n := 23) (t := 27) d_Program_findWrongLine_20 rfl (by decide) (fun c3 => ?_) (fun c3 => ?_)
      · rw [if_neg c3] at hJ
        obtain ⟨v1, ev1, hJ⟩ := ax_letE hJ
        refine aw_iinc (n := 30) (j := 1) (v := v1) d_Program_findWrongLine_27 rfl rfl (ev1) (by decide) rfl ?_
        refine aw_goto (t := 7) d_Program_findWrongLine_30 (by decide) ?_
        refine aw_sub [1, 0] rfl ?_
        exact ih _ _ hJ
      · rw [if_pos c3] at hJ
        refine aw_iload_n (n := 24) d_Program_findWrongLine_23 rfl rfl 1 rfl ?_
        refine aw_iconst (n := 25) (v := 1) d_Program_findWrongLine_24 rfl (by decide) ?_
        refine aw_iadd (n := 26) d_Program_findWrongLine_25 rfl ?_
        exact aw_iret d_Program_findWrongLine_26 rfl (ax_ret hJ)
set_option maxHeartbeats 1000000 in
theorem c_Program_findWrongLine {N : Nat} {g : ax_G} {σ : St} {r9 : Int32} {s9 : St} (hJ : J_Program_findWrongLine N σ = some (r9, s9)) : ax_CI μ_Program_findWrongLine g y_Program_findWrongLine (wC g) [.ref (g.2.1 16)] σ (ax_eqI r9 s9) := by
  refine ax_CI.of (plainFor_of_name rfl) rfl (Nat.le_of_ble_eq_true rfl) (fun x A _ => ?_)
  show AW x μ_Program_findWrongLine g A (wC g) (0, 0) (ax_QI x μ_Program_findWrongLine g A (wC g) (ax_eqI r9 s9)) 0 [(0, .ref (g.2.1 16))] [] σ
  rw [J_Program_findWrongLine] at hJ
  refine aw_aload_n (n := 1) d_Program_findWrongLine_0 rfl rfl 0 rfl ?_
  refine aw_iconst (n := 2) (v := 0) d_Program_findWrongLine_1 rfl (by decide) ?_
  refine pf_Program_openCount (n := 5) d_Program_findWrongLine_2 rfl kf_Program_56 ?_
  obtain ⟨σ1, eσ1, hJ⟩ := ax_letE hJ
  refine aw_let eσ1 ?_
  refine aw_iconst (n := 6) (v := 0) d_Program_findWrongLine_5 rfl (by decide) ?_
  refine aw_istore_n (n := 7) d_Program_findWrongLine_6 rfl rfl (by decide) rfl ?_
  refine aw_sub [1, 0] rfl ?_
  exact t_Program_findWrongLine_7 x A N _ _ hJ
abbrev b_Con_seal : ByteArray := prog_1_method_6_code
def y_Con_seal : MethodName := ⟨"DotConsole", "seal", "()I"⟩
theorem d_Con_seal_0 : decode b_Con_seal 0 = .ok (.aload_n 0, 1) := by decide +kernel
theorem d_Con_seal_1 : decode b_Con_seal 1 = .ok (.getfield 35, 3) := by decide +kernel
theorem d_Con_seal_4 : decode b_Con_seal 4 = .ok (.getfield 59, 3) := by decide +kernel
theorem d_Con_seal_7 : decode b_Con_seal 7 = .ok (.ifCond .eq 5, 3) := by decide +kernel
theorem d_Con_seal_10 : decode b_Con_seal 10 = .ok (.iconst (-1), 1) := by decide +kernel
theorem d_Con_seal_11 : decode b_Con_seal 11 = .ok (.ireturn, 1) := by decide +kernel
theorem d_Con_seal_12 : decode b_Con_seal 12 = .ok (.aload_n 0, 1) := by decide +kernel
theorem d_Con_seal_13 : decode b_Con_seal 13 = .ok (.getfield 35, 3) := by decide +kernel
theorem d_Con_seal_16 : decode b_Con_seal 16 = .ok (.invokevirtual 95, 3) := by decide +kernel
theorem d_Con_seal_19 : decode b_Con_seal 19 = .ok (.istore_n 1, 1) := by decide +kernel
theorem d_Con_seal_20 : decode b_Con_seal 20 = .ok (.aload_n 0, 1) := by decide +kernel
theorem d_Con_seal_21 : decode b_Con_seal 21 = .ok (.getfield 35, 3) := by decide +kernel
theorem d_Con_seal_24 : decode b_Con_seal 24 = .ok (.iload_n 1, 1) := by decide +kernel
theorem d_Con_seal_25 : decode b_Con_seal 25 = .ok (.ifCond .ne 7, 3) := by decide +kernel
theorem d_Con_seal_28 : decode b_Con_seal 28 = .ok (.iconst 1, 1) := by decide +kernel
theorem d_Con_seal_29 : decode b_Con_seal 29 = .ok (.goto 4, 3) := by decide +kernel
theorem d_Con_seal_32 : decode b_Con_seal 32 = .ok (.iconst 0, 1) := by decide +kernel
theorem d_Con_seal_33 : decode b_Con_seal 33 = .ok (.putfield 59, 3) := by decide +kernel
theorem d_Con_seal_36 : decode b_Con_seal 36 = .ok (.iload_n 1, 1) := by decide +kernel
theorem d_Con_seal_37 : decode b_Con_seal 37 = .ok (.ireturn, 1) := by decide +kernel
def μ_Con_seal : ax_M := (b_Con_seal, 2, "DotConsole", (some .int), 3, 64, 0, 0)
theorem Y_Con_seal : ax_YV μ_Con_seal y_Con_seal 0 := ⟨⟨ax_mem (by decide +kernel) rfl, ax_mem (by decide +kernel) rfl, by decide, by decide, by decide +kernel⟩, ax_mem (by decide +kernel) rfl, ax_mem (by decide +kernel) rfl⟩
theorem km_Con_95 : Cond.methodLink "DotConsole" 95 ⟨"DotConsole$Program", "findWrongLine", "()I"⟩ ∈ ax_T := ax_mem (by decide +kernel) rfl
def J_Con_seal (N : Nat) (σ : St) : Option (Int32 × St) :=
  (if (σ.1 17) = 0 then
  ax_bind (J_Program_findWrongLine N σ) (fun r1 σ1 =>
  (if r1 = 0 then
  ax_let (sF σ1 17 1) (fun σ3 =>
  some (r1, σ3))
  else ax_let (sF σ1 17 0) (fun σ2 =>
  some (r1, σ2))))
  else some ((-1), σ))
set_option maxHeartbeats 1000000 in
theorem c_Con_seal {N : Nat} {g : ax_G} {σ : St} {r9 : Int32} {s9 : St} (hJ : J_Con_seal N σ = some (r9, s9)) : ax_CI μ_Con_seal g y_Con_seal (wC g) [.ref (g.2.1 0)] σ (ax_eqI r9 s9) := by
  refine ax_CI.of (plainFor_of_name rfl) rfl (Nat.le_of_ble_eq_true rfl) (fun x A _ => ?_)
  show AW x μ_Con_seal g A (wC g) (0, 0) (ax_QI x μ_Con_seal g A (wC g) (ax_eqI r9 s9)) 0 [(0, .ref (g.2.1 0))] [] σ
  rw [J_Con_seal] at hJ
  refine aw_aload_n (n := 1) d_Con_seal_0 rfl rfl 0 rfl ?_
  refine gf_Con_program (n := 4) d_Con_seal_1 rfl kf_Con_35 ?_
  refine gf_Program_sealed (n := 7) d_Con_seal_4 rfl kf_Con_59 ?_
  refine aw_if_eq (n := 10) (t := 12) d_Con_seal_7 rfl (by decide) (fun c1 => ?_) (fun c1 => ?_)
  · rw [if_pos c1] at hJ
    refine aw_aload_n (n := 13) d_Con_seal_12 rfl rfl 0 rfl ?_
    refine gf_Con_program (n := 16) d_Con_seal_13 rfl kf_Con_35 ?_
    obtain ⟨r1, σ1, hc1, hJ⟩ := ax_bindE hJ
    refine aw_callVi (n := 19) (c_Program_findWrongLine hc1) 16 rfl rfl Y_Program_findWrongLine km_Con_95 (by decide) (by decide) rfl rfl (Nat.le_of_ble_eq_true rfl) d_Con_seal_16 rfl (fun r9 s9 hp => ?_)
    obtain ⟨rfl, rfl⟩ := hp
    refine aw_istore_n (n := 20) d_Con_seal_19 rfl rfl (by decide) rfl ?_
    refine aw_aload_n (n := 21) d_Con_seal_20 rfl rfl 1 rfl ?_
    refine gf_Con_program (n := 24) d_Con_seal_21 rfl kf_Con_35 ?_
    refine aw_iload_n (n := 25) d_Con_seal_24 rfl rfl 0 rfl ?_
    refine aw_if_ne (n := 28) (t := 32) d_Con_seal_25 rfl (by decide) (fun c2 => ?_) (fun c2 => ?_)
    · rw [if_neg c2] at hJ
      refine aw_iconst (n := 33) (v := 0) d_Con_seal_32 rfl (by decide) ?_
      refine pf_Program_sealed (n := 36) d_Con_seal_33 rfl kf_Con_59 rfl rfl ?_
      obtain ⟨σ2, eσ2, hJ⟩ := ax_letE hJ
      refine aw_let eσ2 ?_
      refine aw_iload_n (n := 37) d_Con_seal_36 rfl rfl 0 rfl ?_
      exact aw_iret d_Con_seal_37 rfl (ax_ret hJ)
    · rw [if_pos c2] at hJ
      refine aw_iconst (n := 29) (v := 1) d_Con_seal_28 rfl (by decide) ?_
      refine aw_goto (t := 33) d_Con_seal_29 (by decide) ?_
      refine pf_Program_sealed (n := 36) d_Con_seal_33 rfl kf_Con_59 rfl rfl ?_
      obtain ⟨σ3, eσ3, hJ⟩ := ax_letE hJ
      refine aw_let eσ3 ?_
      refine aw_iload_n (n := 37) d_Con_seal_36 rfl rfl 0 rfl ?_
      exact aw_iret d_Con_seal_37 rfl (ax_ret hJ)
  · rw [if_neg c1] at hJ
    refine aw_iconst (n := 11) (v := -1) d_Con_seal_10 rfl (by decide) ?_
    exact aw_iret d_Con_seal_11 rfl (ax_ret hJ)
abbrev b_Pad_press : ByteArray := prog_5_method_3_code
def y_Pad_press : MethodName := ⟨"DotConsole$Pad", "press", "(I)V"⟩
theorem d_Pad_press_0 : decode b_Pad_press 0 = .ok (.iconst 0, 1) := by decide +kernel
theorem d_Pad_press_1 : decode b_Pad_press 1 = .ok (.istore_n 2, 1) := by decide +kernel
theorem d_Pad_press_2 : decode b_Pad_press 2 = .ok (.iload_n 2, 1) := by decide +kernel
theorem d_Pad_press_3 : decode b_Pad_press 3 = .ok (.bipush 6, 2) := by decide +kernel
theorem d_Pad_press_5 : decode b_Pad_press 5 = .ok (.if_icmp .ge 36, 3) := by decide +kernel
theorem d_Pad_press_8 : decode b_Pad_press 8 = .ok (.aload_n 0, 1) := by decide +kernel
theorem d_Pad_press_9 : decode b_Pad_press 9 = .ok (.getfield 9, 3) := by decide +kernel
theorem d_Pad_press_12 : decode b_Pad_press 12 = .ok (.iload_n 2, 1) := by decide +kernel
theorem d_Pad_press_13 : decode b_Pad_press 13 = .ok (.iload_n 1, 1) := by decide +kernel
theorem d_Pad_press_14 : decode b_Pad_press 14 = .ok (.iload_n 2, 1) := by decide +kernel
theorem d_Pad_press_15 : decode b_Pad_press 15 = .ok (.ishr, 1) := by decide +kernel
theorem d_Pad_press_16 : decode b_Pad_press 16 = .ok (.iconst 1, 1) := by decide +kernel
theorem d_Pad_press_17 : decode b_Pad_press 17 = .ok (.iand, 1) := by decide +kernel
theorem d_Pad_press_18 : decode b_Pad_press 18 = .ok (.iconst 1, 1) := by decide +kernel
theorem d_Pad_press_19 : decode b_Pad_press 19 = .ok (.if_icmp .ne 14, 3) := by decide +kernel
theorem d_Pad_press_22 : decode b_Pad_press 22 = .ok (.aload_n 0, 1) := by decide +kernel
theorem d_Pad_press_23 : decode b_Pad_press 23 = .ok (.getfield 9, 3) := by decide +kernel
theorem d_Pad_press_26 : decode b_Pad_press 26 = .ok (.iload_n 2, 1) := by decide +kernel
theorem d_Pad_press_27 : decode b_Pad_press 27 = .ok (.iaload, 1) := by decide +kernel
theorem d_Pad_press_28 : decode b_Pad_press 28 = .ok (.iconst 1, 1) := by decide +kernel
theorem d_Pad_press_29 : decode b_Pad_press 29 = .ok (.iadd, 1) := by decide +kernel
theorem d_Pad_press_30 : decode b_Pad_press 30 = .ok (.goto 4, 3) := by decide +kernel
theorem d_Pad_press_33 : decode b_Pad_press 33 = .ok (.iconst 0, 1) := by decide +kernel
theorem d_Pad_press_34 : decode b_Pad_press 34 = .ok (.iastore, 1) := by decide +kernel
theorem d_Pad_press_35 : decode b_Pad_press 35 = .ok (.iinc 2 1, 3) := by decide +kernel
theorem d_Pad_press_38 : decode b_Pad_press 38 = .ok (.goto (-36), 3) := by decide +kernel
theorem d_Pad_press_41 : decode b_Pad_press 41 = .ok (.return_, 1) := by decide +kernel
def μ_Pad_press : ax_M := (b_Pad_press, 3, "DotConsole$Pad", none, 0, 0, 0, 0)
theorem Y_Pad_press : ax_YV μ_Pad_press y_Pad_press 1 := ⟨⟨ax_mem (by decide +kernel) rfl, ax_mem (by decide +kernel) rfl, by decide, by decide, by decide +kernel⟩, ax_mem (by decide +kernel) rfl, ax_mem (by decide +kernel) rfl⟩
theorem kf_Pad_9 : Cond.fieldLink "DotConsole$Pad" 9 "DotConsole$Pad" "framesDown" "[I" ∈ ax_T := ax_mem (by decide +kernel) rfl
def J_Pad_press_2 (N : Nat) : Nat → Int32 → Int32 → St → Option St
  | 0, _, _, _ => none
  | n + 1, l1, l2, σ => (if 6 ≤ l2 then
  some σ
  else (if ((l1 >>> (l2 &&& 31)) &&& 1) = 1 then
  (if (inB l2 6) = true then (if (inB l2 6) = true then ax_let (sA σ 23 l2.toNatClampNeg ((σ.2 23 l2.toNatClampNeg) + 1)) (fun σ2 =>
  ax_let ((l2 + 1) : Int32) (fun v2 =>
  J_Pad_press_2 N n l1 v2 σ2)) else none) else none)
  else (if (inB l2 6) = true then ax_let (sA σ 23 l2.toNatClampNeg 0) (fun σ1 =>
  ax_let ((l2 + 1) : Int32) (fun v1 =>
  J_Pad_press_2 N n l1 v1 σ1)) else none)))
def J_Pad_press (N : Nat) (a1 : Int32) (σ : St) : Option St :=
  J_Pad_press_2 N N a1 0 σ
set_option maxHeartbeats 1000000 in
theorem t_Pad_press_2 {N : Nat} {g : ax_G} {s9 : St} (x : ax_X) (A : Nat → Prop) : ∀ (n : Nat) (l1 : Int32) (l2 : Int32) (σ : St), J_Pad_press_2 N n l1 l2 σ = some s9 → AW x μ_Pad_press g A (wC g) (0, 0) (ax_QV x μ_Pad_press g A (wC g) (ax_eqV s9)) 2 [(0, .ref (g.2.1 30)), (1, .int l1), (2, .int l2)] [] σ := by
  intro n
  induction n with
  | zero => intro l1 l2 σ hJ; rw [J_Pad_press_2] at hJ; cases hJ
  | succ n ih =>
    intro l1 l2 σ hJ
    rw [J_Pad_press_2] at hJ
    refine aw_iload_n (n := 3) d_Pad_press_2 rfl rfl 2 rfl ?_
    refine aw_bipush (n := 5) (v := 6) d_Pad_press_3 rfl (by decide) ?_
    refine aw_icmp_ge (n := 8) (t := 41) d_Pad_press_5 rfl (by decide) (fun c1 => ?_) (fun c1 => ?_)
    · rw [if_pos c1] at hJ
      exact aw_vret d_Pad_press_41 rfl (ax_retV hJ)
    · rw [if_neg c1] at hJ
      refine aw_aload_n (n := 9) d_Pad_press_8 rfl rfl 0 rfl ?_
      refine gf_Pad_framesDown (n := 12) d_Pad_press_9 rfl kf_Pad_9 ?_
      refine aw_iload_n (n := 13) d_Pad_press_12 rfl rfl 2 rfl ?_
      refine aw_iload_n (n := 14) d_Pad_press_13 rfl rfl 1 rfl ?_
      refine aw_iload_n (n := 15) d_Pad_press_14 rfl rfl 2 rfl ?_
      refine aw_ishr (n := 16) d_Pad_press_15 rfl ?_
      refine aw_iconst (n := 17) (v := 1) d_Pad_press_16 rfl (by decide) ?_
      refine aw_iand (n := 18) d_Pad_press_17 rfl ?_
      refine aw_iconst (n := 19) (v := 1) d_Pad_press_18 rfl (by decide) ?_
      refine aw_icmp_ne (n := 22) (t := 33) d_Pad_press_19 rfl (by decide) (fun c2 => ?_) (fun c2 => ?_)
      · rw [if_neg c2] at hJ
        refine aw_iconst (n := 34) (v := 0) d_Pad_press_33 rfl (by decide) ?_
        obtain ⟨h1, hJ⟩ := ax_need hJ
        refine as_31 (n := 35) d_Pad_press_34 rfl h1 ?_
        obtain ⟨σ1, eσ1, hJ⟩ := ax_letE hJ
        refine aw_let eσ1 ?_
        obtain ⟨v1, ev1, hJ⟩ := ax_letE hJ
        refine aw_iinc (n := 38) (j := 2) (v := v1) d_Pad_press_35 rfl rfl (ev1) (by decide) rfl ?_
        refine aw_goto (t := 2) d_Pad_press_38 (by decide) ?_
        refine aw_sub [1, 2, 0] rfl ?_
        exact ih _ _ _ hJ
      · rw [if_pos c2] at hJ
        refine aw_aload_n (n := 23) d_Pad_press_22 rfl rfl 0 rfl ?_
        refine gf_Pad_framesDown (n := 26) d_Pad_press_23 rfl kf_Pad_9 ?_
        refine aw_iload_n (n := 27) d_Pad_press_26 rfl rfl 2 rfl ?_
        obtain ⟨h2, hJ⟩ := ax_need hJ
        refine al_31 (n := 28) d_Pad_press_27 rfl h2 ?_
        refine aw_iconst (n := 29) (v := 1) d_Pad_press_28 rfl (by decide) ?_
        refine aw_iadd (n := 30) d_Pad_press_29 rfl ?_
        refine aw_goto (t := 34) d_Pad_press_30 (by decide) ?_
        obtain ⟨h3, hJ⟩ := ax_need hJ
        refine as_31 (n := 35) d_Pad_press_34 rfl h3 ?_
        obtain ⟨σ2, eσ2, hJ⟩ := ax_letE hJ
        refine aw_let eσ2 ?_
        obtain ⟨v2, ev2, hJ⟩ := ax_letE hJ
        refine aw_iinc (n := 38) (j := 2) (v := v2) d_Pad_press_35 rfl rfl (ev2) (by decide) rfl ?_
        refine aw_goto (t := 2) d_Pad_press_38 (by decide) ?_
        refine aw_sub [1, 2, 0] rfl ?_
        exact ih _ _ _ hJ
set_option maxHeartbeats 1000000 in
theorem c_Pad_press {N : Nat} {g : ax_G} {a1 : Int32} {σ : St} {s9 : St} (hJ : J_Pad_press N a1 σ = some s9) : ax_CV μ_Pad_press g y_Pad_press (wC g) [.ref (g.2.1 30), .int a1] σ (ax_eqV s9) := by
  refine ax_CV.of (plainFor_of_name rfl) rfl (Nat.le_of_ble_eq_true rfl) (fun x A _ => ?_)
  show AW x μ_Pad_press g A (wC g) (0, 0) (ax_QV x μ_Pad_press g A (wC g) (ax_eqV s9)) 0 [(0, .ref (g.2.1 30)), (1, .int a1)] [] σ
  rw [J_Pad_press] at hJ
  refine aw_iconst (n := 1) (v := 0) d_Pad_press_0 rfl (by decide) ?_
  refine aw_istore_n (n := 2) d_Pad_press_1 rfl rfl (by decide) rfl ?_
  refine aw_sub [1, 2, 0] rfl ?_
  exact t_Pad_press_2 x A N _ _ _ hJ
abbrev b_Program_isMark : ByteArray := prog_6_method_9_code
def y_Program_isMark : MethodName := ⟨"DotConsole$Program", "isMark", "(I)Z"⟩
theorem d_Program_isMark_0 : decode b_Program_isMark 0 = .ok (.iload_n 1, 1) := by decide +kernel
theorem d_Program_isMark_1 : decode b_Program_isMark 1 = .ok (.aload_n 0, 1) := by decide +kernel
theorem d_Program_isMark_2 : decode b_Program_isMark 2 = .ok (.getfield 33, 3) := by decide +kernel
theorem d_Program_isMark_5 : decode b_Program_isMark 5 = .ok (.if_icmp .ge 28, 3) := by decide +kernel
theorem d_Program_isMark_8 : decode b_Program_isMark 8 = .ok (.aload_n 0, 1) := by decide +kernel
theorem d_Program_isMark_9 : decode b_Program_isMark 9 = .ok (.getfield 9, 3) := by decide +kernel
theorem d_Program_isMark_12 : decode b_Program_isMark 12 = .ok (.iload_n 1, 1) := by decide +kernel
theorem d_Program_isMark_13 : decode b_Program_isMark 13 = .ok (.iaload, 1) := by decide +kernel
theorem d_Program_isMark_14 : decode b_Program_isMark 14 = .ok (.iconst 5, 1) := by decide +kernel
theorem d_Program_isMark_15 : decode b_Program_isMark 15 = .ok (.if_icmp .eq 14, 3) := by decide +kernel
theorem d_Program_isMark_18 : decode b_Program_isMark 18 = .ok (.aload_n 0, 1) := by decide +kernel
theorem d_Program_isMark_19 : decode b_Program_isMark 19 = .ok (.getfield 9, 3) := by decide +kernel
theorem d_Program_isMark_22 : decode b_Program_isMark 22 = .ok (.iload_n 1, 1) := by decide +kernel
theorem d_Program_isMark_23 : decode b_Program_isMark 23 = .ok (.iaload, 1) := by decide +kernel
theorem d_Program_isMark_24 : decode b_Program_isMark 24 = .ok (.bipush 7, 2) := by decide +kernel
theorem d_Program_isMark_26 : decode b_Program_isMark 26 = .ok (.if_icmp .ne 7, 3) := by decide +kernel
theorem d_Program_isMark_29 : decode b_Program_isMark 29 = .ok (.iconst 1, 1) := by decide +kernel
theorem d_Program_isMark_30 : decode b_Program_isMark 30 = .ok (.goto 4, 3) := by decide +kernel
theorem d_Program_isMark_33 : decode b_Program_isMark 33 = .ok (.iconst 0, 1) := by decide +kernel
theorem d_Program_isMark_34 : decode b_Program_isMark 34 = .ok (.ireturn, 1) := by decide +kernel
def μ_Program_isMark : ax_M := (b_Program_isMark, 2, "DotConsole$Program", (some .boolean), 0, 0, 0, 0)
theorem Y_Program_isMark : ax_YV μ_Program_isMark y_Program_isMark 1 := ⟨⟨ax_mem (by decide +kernel) rfl, ax_mem (by decide +kernel) rfl, by decide, by decide, by decide +kernel⟩, ax_mem (by decide +kernel) rfl, ax_mem (by decide +kernel) rfl⟩
def J_Program_isMark (N : Nat) (a1 : Int32) (σ : St) : Option (Int32 × St) :=
  (if (σ.1 16) ≤ a1 then
  some (0, σ)
  else (if (inB a1 28) = true then (if (σ.2 12 a1.toNatClampNeg) = 5 then
  some (1, σ)
  else (if (inB a1 28) = true then (if (σ.2 12 a1.toNatClampNeg) = 7 then
  some (1, σ)
  else some (0, σ)) else none)) else none))
set_option maxHeartbeats 1000000 in
theorem c_Program_isMark {N : Nat} {g : ax_G} {a1 : Int32} {σ : St} {r9 : Int32} {s9 : St} (hJ : J_Program_isMark N a1 σ = some (r9, s9)) : ax_CI μ_Program_isMark g y_Program_isMark (wC g) [.ref (g.2.1 16), .int a1] σ (ax_eqZ r9 s9) := by
  refine ax_CI.of (plainFor_of_name rfl) rfl (Nat.le_of_ble_eq_true rfl) (fun x A _ => ?_)
  show AW x μ_Program_isMark g A (wC g) (0, 0) (ax_QI x μ_Program_isMark g A (wC g) (ax_eqZ r9 s9)) 0 [(0, .ref (g.2.1 16)), (1, .int a1)] [] σ
  rw [J_Program_isMark] at hJ
  refine aw_iload_n (n := 1) d_Program_isMark_0 rfl rfl 1 rfl ?_
  refine aw_aload_n (n := 2) d_Program_isMark_1 rfl rfl 0 rfl ?_
  refine gf_Program_lines (n := 5) d_Program_isMark_2 rfl kf_Program_33 ?_
  refine aw_icmp_ge (n := 8) (t := 33) d_Program_isMark_5 rfl (by decide) (fun c1 => ?_) (fun c1 => ?_)
  · rw [if_pos c1] at hJ
    refine aw_iconst (n := 34) (v := 0) d_Program_isMark_33 rfl (by decide) ?_
    exact aw_zret d_Program_isMark_34 rfl rfl (ax_retZ hJ rfl)
  · rw [if_neg c1] at hJ
    refine aw_aload_n (n := 9) d_Program_isMark_8 rfl rfl 0 rfl ?_
    refine gf_Program_statements (n := 12) d_Program_isMark_9 rfl kf_Program_9 ?_
    refine aw_iload_n (n := 13) d_Program_isMark_12 rfl rfl 1 rfl ?_
    obtain ⟨h1, hJ⟩ := ax_need hJ
    refine al_17 (n := 14) d_Program_isMark_13 rfl h1 ?_
    refine aw_iconst (n := 15) (v := 5) d_Program_isMark_14 rfl (by decide) ?_
    refine aw_icmp_eq (n := 18) (t := 29) d_Program_isMark_15 rfl (by decide) (fun c2 => ?_) (fun c2 => ?_)
    · rw [if_pos c2] at hJ
      refine aw_iconst (n := 30) (v := 1) d_Program_isMark_29 rfl (by decide) ?_
      refine aw_goto (t := 34) d_Program_isMark_30 (by decide) ?_
      exact aw_zret d_Program_isMark_34 rfl rfl (ax_retZ hJ rfl)
    · rw [if_neg c2] at hJ
      refine aw_aload_n (n := 19) d_Program_isMark_18 rfl rfl 0 rfl ?_
      refine gf_Program_statements (n := 22) d_Program_isMark_19 rfl kf_Program_9 ?_
      refine aw_iload_n (n := 23) d_Program_isMark_22 rfl rfl 1 rfl ?_
      obtain ⟨h2, hJ⟩ := ax_need hJ
      refine al_17 (n := 24) d_Program_isMark_23 rfl h2 ?_
      refine aw_bipush (n := 26) (v := 7) d_Program_isMark_24 rfl (by decide) ?_
      refine aw_icmp_ne (n := 29) (t := 33) d_Program_isMark_26 rfl (by decide) (fun c3 => ?_) (fun c3 => ?_)
      · rw [if_neg c3] at hJ
        refine aw_iconst (n := 34) (v := 0) d_Program_isMark_33 rfl (by decide) ?_
        exact aw_zret d_Program_isMark_34 rfl rfl (ax_retZ hJ rfl)
      · rw [if_pos c3] at hJ
        refine aw_iconst (n := 30) (v := 1) d_Program_isMark_29 rfl (by decide) ?_
        refine aw_goto (t := 34) d_Program_isMark_30 (by decide) ?_
        exact aw_zret d_Program_isMark_34 rfl rfl (ax_retZ hJ rfl)
abbrev b_Program_skipMarks : ByteArray := prog_6_method_8_code
def y_Program_skipMarks : MethodName := ⟨"DotConsole$Program", "skipMarks", "(I)I"⟩
theorem d_Program_skipMarks_0 : decode b_Program_skipMarks 0 = .ok (.iload_n 1, 1) := by decide +kernel
theorem d_Program_skipMarks_1 : decode b_Program_skipMarks 1 = .ok (.istore_n 2, 1) := by decide +kernel
theorem d_Program_skipMarks_2 : decode b_Program_skipMarks 2 = .ok (.iconst 0, 1) := by decide +kernel
theorem d_Program_skipMarks_3 : decode b_Program_skipMarks 3 = .ok (.istore_n 3, 1) := by decide +kernel
theorem d_Program_skipMarks_4 : decode b_Program_skipMarks 4 = .ok (.iload_n 3, 1) := by decide +kernel
theorem d_Program_skipMarks_5 : decode b_Program_skipMarks 5 = .ok (.bipush 28, 2) := by decide +kernel
theorem d_Program_skipMarks_7 : decode b_Program_skipMarks 7 = .ok (.if_icmp .ge 24, 3) := by decide +kernel
theorem d_Program_skipMarks_10 : decode b_Program_skipMarks 10 = .ok (.aload_n 0, 1) := by decide +kernel
theorem d_Program_skipMarks_11 : decode b_Program_skipMarks 11 = .ok (.iload_n 2, 1) := by decide +kernel
theorem d_Program_skipMarks_12 : decode b_Program_skipMarks 12 = .ok (.invokevirtual 72, 3) := by decide +kernel
theorem d_Program_skipMarks_15 : decode b_Program_skipMarks 15 = .ok (.ifCond .eq 16, 3) := by decide +kernel
theorem d_Program_skipMarks_18 : decode b_Program_skipMarks 18 = .ok (.aload_n 0, 1) := by decide +kernel
theorem d_Program_skipMarks_19 : decode b_Program_skipMarks 19 = .ok (.getfield 27, 3) := by decide +kernel
theorem d_Program_skipMarks_22 : decode b_Program_skipMarks 22 = .ok (.iload_n 2, 1) := by decide +kernel
theorem d_Program_skipMarks_23 : decode b_Program_skipMarks 23 = .ok (.iaload, 1) := by decide +kernel
theorem d_Program_skipMarks_24 : decode b_Program_skipMarks 24 = .ok (.istore_n 2, 1) := by decide +kernel
theorem d_Program_skipMarks_25 : decode b_Program_skipMarks 25 = .ok (.iinc 3 1, 3) := by decide +kernel
theorem d_Program_skipMarks_28 : decode b_Program_skipMarks 28 = .ok (.goto (-24), 3) := by decide +kernel
theorem d_Program_skipMarks_31 : decode b_Program_skipMarks 31 = .ok (.iload_n 2, 1) := by decide +kernel
theorem d_Program_skipMarks_32 : decode b_Program_skipMarks 32 = .ok (.ireturn, 1) := by decide +kernel
def μ_Program_skipMarks : ax_M := (b_Program_skipMarks, 4, "DotConsole$Program", (some .int), 1, 21, 0, 0)
theorem Y_Program_skipMarks : ax_YV μ_Program_skipMarks y_Program_skipMarks 1 := ⟨⟨ax_mem (by decide +kernel) rfl, ax_mem (by decide +kernel) rfl, by decide, by decide, by decide +kernel⟩, ax_mem (by decide +kernel) rfl, ax_mem (by decide +kernel) rfl⟩
theorem km_Program_72 : Cond.methodLink "DotConsole$Program" 72 ⟨"DotConsole$Program", "isMark", "(I)Z"⟩ ∈ ax_T := ax_mem (by decide +kernel) rfl
def J_Program_skipMarks_4 (N : Nat) : Nat → Int32 → Int32 → St → Option (Int32 × St)
  | 0, _, _, _ => none
  | n + 1, l2, l3, σ => (if 28 ≤ l3 then
  some (l2, σ)
  else ax_bind (J_Program_isMark N l2 σ) (fun r1 σ1 =>
  (if r1 = 0 then
  some (l2, σ1)
  else (if (inB l2 28) = true then ax_let ((σ1.2 17 l2.toNatClampNeg) : Int32) (fun v1 =>
  ax_let ((l3 + 1) : Int32) (fun v2 =>
  J_Program_skipMarks_4 N n v1 v2 σ1)) else none))))
def J_Program_skipMarks (N : Nat) (a1 : Int32) (σ : St) : Option (Int32 × St) :=
  J_Program_skipMarks_4 N N a1 0 σ
set_option maxHeartbeats 1000000 in
theorem t_Program_skipMarks_4 {N : Nat} {g : ax_G} {r9 : Int32} {s9 : St} (x : ax_X) (A : Nat → Prop) : ∀ (n : Nat) (l2 : Int32) (l3 : Int32) (σ : St), J_Program_skipMarks_4 N n l2 l3 σ = some (r9, s9) → AW x μ_Program_skipMarks g A (wC g) (0, 0) (ax_QI x μ_Program_skipMarks g A (wC g) (ax_eqI r9 s9)) 4 [(0, .ref (g.2.1 16)), (2, .int l2), (3, .int l3)] [] σ := by
  intro n
  induction n with
  | zero => intro l2 l3 σ hJ; rw [J_Program_skipMarks_4] at hJ; cases hJ
  | succ n ih =>
    intro l2 l3 σ hJ
    rw [J_Program_skipMarks_4] at hJ
    refine aw_iload_n (n := 5) d_Program_skipMarks_4 rfl rfl 2 rfl ?_
    refine aw_bipush (n := 7) (v := 28) d_Program_skipMarks_5 rfl (by decide) ?_
    refine aw_icmp_ge (n := 10) (t := 31) d_Program_skipMarks_7 rfl (by decide) (fun c1 => ?_) (fun c1 => ?_)
    · rw [if_pos c1] at hJ
      refine aw_iload_n (n := 32) d_Program_skipMarks_31 rfl rfl 1 rfl ?_
      exact aw_iret d_Program_skipMarks_32 rfl (ax_ret hJ)
    · rw [if_neg c1] at hJ
      refine aw_aload_n (n := 11) d_Program_skipMarks_10 rfl rfl 0 rfl ?_
      refine aw_iload_n (n := 12) d_Program_skipMarks_11 rfl rfl 1 rfl ?_
      obtain ⟨r1, σ1, hc1, hJ⟩ := ax_bindE hJ
      refine aw_callVi (n := 15) (c_Program_isMark hc1) 16 rfl rfl Y_Program_isMark km_Program_72 (by decide) (by decide) rfl rfl (Nat.le_of_ble_eq_true rfl) d_Program_skipMarks_12 rfl (fun r9 s9 hp => ?_)
      obtain ⟨rfl, rfl, hb1⟩ := hp
      refine aw_if_eq (n := 18) (t := 31) d_Program_skipMarks_15 rfl (by decide) (fun c2 => ?_) (fun c2 => ?_)
      · rw [if_pos c2] at hJ
        refine aw_iload_n (n := 32) d_Program_skipMarks_31 rfl rfl 1 rfl ?_
        exact aw_iret d_Program_skipMarks_32 rfl (ax_ret hJ)
      · rw [if_neg c2] at hJ
        refine aw_aload_n (n := 19) d_Program_skipMarks_18 rfl rfl 0 rfl ?_
        refine gf_Program_jumps (n := 22) d_Program_skipMarks_19 rfl kf_Program_27 ?_
        refine aw_iload_n (n := 23) d_Program_skipMarks_22 rfl rfl 1 rfl ?_
        obtain ⟨h1, hJ⟩ := ax_need hJ
        refine al_22 (n := 24) d_Program_skipMarks_23 rfl h1 ?_
        obtain ⟨v1, ev1, hJ⟩ := ax_letE hJ
        refine aw_top ev1 ?_
        refine aw_istore_n (n := 25) d_Program_skipMarks_24 rfl rfl (by decide) rfl ?_
        obtain ⟨v2, ev2, hJ⟩ := ax_letE hJ
        refine aw_iinc (n := 28) (j := 2) (v := v2) d_Program_skipMarks_25 rfl rfl (ev2) (by decide) rfl ?_
        refine aw_goto (t := 4) d_Program_skipMarks_28 (by decide) ?_
        refine aw_sub [2, 1, 0] rfl ?_
        exact ih _ _ _ hJ
set_option maxHeartbeats 1000000 in
theorem c_Program_skipMarks {N : Nat} {g : ax_G} {a1 : Int32} {σ : St} {r9 : Int32} {s9 : St} (hJ : J_Program_skipMarks N a1 σ = some (r9, s9)) : ax_CI μ_Program_skipMarks g y_Program_skipMarks (wC g) [.ref (g.2.1 16), .int a1] σ (ax_eqI r9 s9) := by
  refine ax_CI.of (plainFor_of_name rfl) rfl (Nat.le_of_ble_eq_true rfl) (fun x A _ => ?_)
  show AW x μ_Program_skipMarks g A (wC g) (0, 0) (ax_QI x μ_Program_skipMarks g A (wC g) (ax_eqI r9 s9)) 0 [(0, .ref (g.2.1 16)), (1, .int a1)] [] σ
  rw [J_Program_skipMarks] at hJ
  refine aw_iload_n (n := 1) d_Program_skipMarks_0 rfl rfl 1 rfl ?_
  refine aw_istore_n (n := 2) d_Program_skipMarks_1 rfl rfl (by decide) rfl ?_
  refine aw_iconst (n := 3) (v := 0) d_Program_skipMarks_2 rfl (by decide) ?_
  refine aw_istore_n (n := 4) d_Program_skipMarks_3 rfl rfl (by decide) rfl ?_
  refine aw_sub [2, 1, 0] rfl ?_
  exact t_Program_skipMarks_4 x A N _ _ _ hJ
abbrev b_Con_partsOf : ByteArray := prog_1_method_16_code
def y_Con_partsOf : MethodName := ⟨"DotConsole", "partsOf", "(I)I"⟩
theorem d_Con_partsOf_0 : decode b_Con_partsOf 0 = .ok (.iload_n 0, 1) := by decide +kernel
theorem d_Con_partsOf_1 : decode b_Con_partsOf 1 = .ok (.iconst 2, 1) := by decide +kernel
theorem d_Con_partsOf_2 : decode b_Con_partsOf 2 = .ok (.if_icmp .eq 8, 3) := by decide +kernel
theorem d_Con_partsOf_5 : decode b_Con_partsOf 5 = .ok (.iload_n 0, 1) := by decide +kernel
theorem d_Con_partsOf_6 : decode b_Con_partsOf 6 = .ok (.iconst 3, 1) := by decide +kernel
theorem d_Con_partsOf_7 : decode b_Con_partsOf 7 = .ok (.if_icmp .ne 5, 3) := by decide +kernel
theorem d_Con_partsOf_10 : decode b_Con_partsOf 10 = .ok (.iconst 0, 1) := by decide +kernel
theorem d_Con_partsOf_11 : decode b_Con_partsOf 11 = .ok (.ireturn, 1) := by decide +kernel
theorem d_Con_partsOf_12 : decode b_Con_partsOf 12 = .ok (.iload_n 0, 1) := by decide +kernel
theorem d_Con_partsOf_13 : decode b_Con_partsOf 13 = .ok (.invokestatic 142, 3) := by decide +kernel
theorem d_Con_partsOf_16 : decode b_Con_partsOf 16 = .ok (.ifCond .eq 11, 3) := by decide +kernel
theorem d_Con_partsOf_19 : decode b_Con_partsOf 19 = .ok (.getstatic 145, 3) := by decide +kernel
theorem d_Con_partsOf_22 : decode b_Con_partsOf 22 = .ok (.iload_n 0, 1) := by decide +kernel
theorem d_Con_partsOf_23 : decode b_Con_partsOf 23 = .ok (.iconst 4, 1) := by decide +kernel
theorem d_Con_partsOf_24 : decode b_Con_partsOf 24 = .ok (.isub, 1) := by decide +kernel
theorem d_Con_partsOf_25 : decode b_Con_partsOf 25 = .ok (.iaload, 1) := by decide +kernel
theorem d_Con_partsOf_26 : decode b_Con_partsOf 26 = .ok (.ireturn, 1) := by decide +kernel
theorem d_Con_partsOf_27 : decode b_Con_partsOf 27 = .ok (.iload_n 0, 1) := by decide +kernel
theorem d_Con_partsOf_28 : decode b_Con_partsOf 28 = .ok (.invokestatic 148, 3) := by decide +kernel
theorem d_Con_partsOf_31 : decode b_Con_partsOf 31 = .ok (.bipush 6, 2) := by decide +kernel
theorem d_Con_partsOf_33 : decode b_Con_partsOf 33 = .ok (.if_icmp .ne 7, 3) := by decide +kernel
theorem d_Con_partsOf_36 : decode b_Con_partsOf 36 = .ok (.iconst 1, 1) := by decide +kernel
theorem d_Con_partsOf_37 : decode b_Con_partsOf 37 = .ok (.goto 4, 3) := by decide +kernel
theorem d_Con_partsOf_40 : decode b_Con_partsOf 40 = .ok (.iconst 2, 1) := by decide +kernel
theorem d_Con_partsOf_41 : decode b_Con_partsOf 41 = .ok (.ireturn, 1) := by decide +kernel
def μ_Con_partsOf : ax_M := (b_Con_partsOf, 1, "DotConsole", (some .int), 1, 20, 0, 0)
theorem Y_Con_partsOf : ax_YS μ_Con_partsOf y_Con_partsOf 1 := ⟨⟨ax_mem (by decide +kernel) rfl, ax_mem (by decide +kernel) rfl, by decide, by decide, by decide +kernel⟩, ax_mem (by decide +kernel) rfl⟩
theorem km_Con_142 : Cond.methodLink "DotConsole" 142 ⟨"DotConsole", "isBuiltIn", "(I)Z"⟩ ∈ ax_T := ax_mem (by decide +kernel) rfl
theorem km_Con_148 : Cond.methodLink "DotConsole" 148 ⟨"DotConsole", "rankOf", "(I)I"⟩ ∈ ax_T := ax_mem (by decide +kernel) rfl
theorem kf_Con_145 : Cond.fieldLink "DotConsole" 145 "DotConsole" "PARTS" "[I" ∈ ax_T := ax_mem (by decide +kernel) rfl
def J_Con_partsOf (N : Nat) (a0 : Int32) (σ : St) : Option (Int32 × St) :=
  (if a0 = 2 then
  some (0, σ)
  else (if a0 = 3 then
  some (0, σ)
  else ax_bind (J_Con_isBuiltIn N a0 σ) (fun r1 σ1 =>
  (if r1 = 0 then
  ax_bind (J_Con_rankOf N a0 σ1) (fun r2 σ2 =>
  (if r2 = 6 then
  some (1, σ2)
  else some (2, σ2)))
  else (if (inB (a0 - 4) 17) = true then some ((tPARTS (a0 - 4).toNatClampNeg), σ1) else none)))))
set_option maxHeartbeats 1000000 in
theorem c_Con_partsOf {N : Nat} {g : ax_G} {a0 : Int32} {σ : St} {r9 : Int32} {s9 : St} (hJ : J_Con_partsOf N a0 σ = some (r9, s9)) : ax_CI μ_Con_partsOf g y_Con_partsOf (wC g) [.int a0] σ (ax_eqI r9 s9) := by
  refine ax_CI.of (plainFor_of_name rfl) rfl (Nat.le_of_ble_eq_true rfl) (fun x A _ => ?_)
  show AW x μ_Con_partsOf g A (wC g) (0, 0) (ax_QI x μ_Con_partsOf g A (wC g) (ax_eqI r9 s9)) 0 [(0, .int a0)] [] σ
  rw [J_Con_partsOf] at hJ
  refine aw_iload_n (n := 1) d_Con_partsOf_0 rfl rfl 0 rfl ?_
  refine aw_iconst (n := 2) (v := 2) d_Con_partsOf_1 rfl (by decide) ?_
  refine aw_icmp_eq (n := 5) (t := 10) d_Con_partsOf_2 rfl (by decide) (fun c1 => ?_) (fun c1 => ?_)
  · rw [if_pos c1] at hJ
    refine aw_iconst (n := 11) (v := 0) d_Con_partsOf_10 rfl (by decide) ?_
    exact aw_iret d_Con_partsOf_11 rfl (ax_ret hJ)
  · rw [if_neg c1] at hJ
    refine aw_iload_n (n := 6) d_Con_partsOf_5 rfl rfl 0 rfl ?_
    refine aw_iconst (n := 7) (v := 3) d_Con_partsOf_6 rfl (by decide) ?_
    refine aw_icmp_ne (n := 10) (t := 12) d_Con_partsOf_7 rfl (by decide) (fun c2 => ?_) (fun c2 => ?_)
    · rw [if_neg c2] at hJ
      refine aw_iload_n (n := 13) d_Con_partsOf_12 rfl rfl 0 rfl ?_
      obtain ⟨r1, σ1, hc1, hJ⟩ := ax_bindE hJ
      refine aw_callSi (n := 16) (c_Con_isBuiltIn hc1) Y_Con_isBuiltIn km_Con_142 (by decide) (by decide) rfl rfl (Nat.le_of_ble_eq_true rfl) d_Con_partsOf_13 rfl (fun r9 s9 hp => ?_)
      obtain ⟨rfl, rfl, hb1⟩ := hp
      refine aw_if_eq (n := 19) (t := 27) d_Con_partsOf_16 rfl (by decide) (fun c3 => ?_) (fun c3 => ?_)
      · rw [if_pos c3] at hJ
        refine aw_iload_n (n := 28) d_Con_partsOf_27 rfl rfl 0 rfl ?_
        obtain ⟨r2, σ2, hc2, hJ⟩ := ax_bindE hJ
        refine aw_callSi (n := 31) (c_Con_rankOf hc2) Y_Con_rankOf km_Con_148 (by decide) (by decide) rfl rfl (Nat.le_of_ble_eq_true rfl) d_Con_partsOf_28 rfl (fun r9 s9 hp => ?_)
        obtain ⟨rfl, rfl⟩ := hp
        refine aw_bipush (n := 33) (v := 6) d_Con_partsOf_31 rfl (by decide) ?_
        refine aw_icmp_ne (n := 36) (t := 40) d_Con_partsOf_33 rfl (by decide) (fun c4 => ?_) (fun c4 => ?_)
        · rw [if_neg c4] at hJ
          refine aw_iconst (n := 41) (v := 2) d_Con_partsOf_40 rfl (by decide) ?_
          exact aw_iret d_Con_partsOf_41 rfl (ax_ret hJ)
        · rw [if_pos c4] at hJ
          refine aw_iconst (n := 37) (v := 1) d_Con_partsOf_36 rfl (by decide) ?_
          refine aw_goto (t := 41) d_Con_partsOf_37 (by decide) ?_
          exact aw_iret d_Con_partsOf_41 rfl (ax_ret hJ)
      · rw [if_neg c3] at hJ
        refine gs_PARTS (n := 22) d_Con_partsOf_19 rfl kf_Con_145 ?_
        refine aw_iload_n (n := 23) d_Con_partsOf_22 rfl rfl 0 rfl ?_
        refine aw_iconst (n := 24) (v := 4) d_Con_partsOf_23 rfl (by decide) ?_
        refine aw_isub (n := 25) d_Con_partsOf_24 rfl ?_
        obtain ⟨h1, hJ⟩ := ax_need hJ
        refine al_PARTS (n := 26) d_Con_partsOf_25 rfl h1 ?_
        exact aw_iret d_Con_partsOf_26 rfl (ax_ret hJ)
    · rw [if_pos c2] at hJ
      refine aw_iconst (n := 11) (v := 0) d_Con_partsOf_10 rfl (by decide) ?_
      exact aw_iret d_Con_partsOf_11 rfl (ax_ret hJ)
abbrev b_Machine_floor : ByteArray := prog_3_method_15_code
def y_Machine_floor : MethodName := ⟨"DotConsole$Machine", "floor", "(I)I"⟩
theorem d_Machine_floor_0 : decode b_Machine_floor 0 = .ok (.iload_n 0, 1) := by decide +kernel
theorem d_Machine_floor_1 : decode b_Machine_floor 1 = .ok (.bipush 16, 2) := by decide +kernel
theorem d_Machine_floor_3 : decode b_Machine_floor 3 = .ok (.ishr, 1) := by decide +kernel
theorem d_Machine_floor_4 : decode b_Machine_floor 4 = .ok (.ireturn, 1) := by decide +kernel
def μ_Machine_floor : ax_M := (b_Machine_floor, 1, "DotConsole$Machine", (some .int), 0, 0, 0, 0)
theorem Y_Machine_floor : ax_YS μ_Machine_floor y_Machine_floor 1 := ⟨⟨ax_mem (by decide +kernel) rfl, ax_mem (by decide +kernel) rfl, by decide, by decide, by decide +kernel⟩, ax_mem (by decide +kernel) rfl⟩
def J_Machine_floor (N : Nat) (a0 : Int32) (σ : St) : Option (Int32 × St) :=
  some ((a0 >>> (16 &&& 31)), σ)
set_option maxHeartbeats 1000000 in
theorem c_Machine_floor {N : Nat} {g : ax_G} {a0 : Int32} {σ : St} {r9 : Int32} {s9 : St} (hJ : J_Machine_floor N a0 σ = some (r9, s9)) : ax_CI μ_Machine_floor g y_Machine_floor (wC g) [.int a0] σ (ax_eqI r9 s9) := by
  refine ax_CI.of (plainFor_of_name rfl) rfl (Nat.le_of_ble_eq_true rfl) (fun x A _ => ?_)
  show AW x μ_Machine_floor g A (wC g) (0, 0) (ax_QI x μ_Machine_floor g A (wC g) (ax_eqI r9 s9)) 0 [(0, .int a0)] [] σ
  rw [J_Machine_floor] at hJ
  refine aw_iload_n (n := 1) d_Machine_floor_0 rfl rfl 0 rfl ?_
  refine aw_bipush (n := 3) (v := 16) d_Machine_floor_1 rfl (by decide) ?_
  refine aw_ishr (n := 4) d_Machine_floor_3 rfl ?_
  exact aw_iret d_Machine_floor_4 rfl (ax_ret hJ)
abbrev b_Screen_isInside : ByteArray := prog_7_method_2_code
def y_Screen_isInside : MethodName := ⟨"DotConsole$Screen", "isInside", "(II)Z"⟩
theorem d_Screen_isInside_0 : decode b_Screen_isInside 0 = .ok (.iload_n 0, 1) := by decide +kernel
theorem d_Screen_isInside_1 : decode b_Screen_isInside 1 = .ok (.ifCond .lt 23, 3) := by decide +kernel
theorem d_Screen_isInside_4 : decode b_Screen_isInside 4 = .ok (.iload_n 0, 1) := by decide +kernel
theorem d_Screen_isInside_5 : decode b_Screen_isInside 5 = .ok (.bipush 16, 2) := by decide +kernel
theorem d_Screen_isInside_7 : decode b_Screen_isInside 7 = .ok (.if_icmp .ge 17, 3) := by decide +kernel
theorem d_Screen_isInside_10 : decode b_Screen_isInside 10 = .ok (.iload_n 1, 1) := by decide +kernel
theorem d_Screen_isInside_11 : decode b_Screen_isInside 11 = .ok (.ifCond .lt 13, 3) := by decide +kernel
theorem d_Screen_isInside_14 : decode b_Screen_isInside 14 = .ok (.iload_n 1, 1) := by decide +kernel
theorem d_Screen_isInside_15 : decode b_Screen_isInside 15 = .ok (.bipush 16, 2) := by decide +kernel
theorem d_Screen_isInside_17 : decode b_Screen_isInside 17 = .ok (.if_icmp .ge 7, 3) := by decide +kernel
theorem d_Screen_isInside_20 : decode b_Screen_isInside 20 = .ok (.iconst 1, 1) := by decide +kernel
theorem d_Screen_isInside_21 : decode b_Screen_isInside 21 = .ok (.goto 4, 3) := by decide +kernel
theorem d_Screen_isInside_24 : decode b_Screen_isInside 24 = .ok (.iconst 0, 1) := by decide +kernel
theorem d_Screen_isInside_25 : decode b_Screen_isInside 25 = .ok (.ireturn, 1) := by decide +kernel
def μ_Screen_isInside : ax_M := (b_Screen_isInside, 2, "DotConsole$Screen", (some .boolean), 0, 0, 0, 0)
theorem Y_Screen_isInside : ax_YS μ_Screen_isInside y_Screen_isInside 2 := ⟨⟨ax_mem (by decide +kernel) rfl, ax_mem (by decide +kernel) rfl, by decide, by decide, by decide +kernel⟩, ax_mem (by decide +kernel) rfl⟩
def J_Screen_isInside (N : Nat) (a0 : Int32) (a1 : Int32) (σ : St) : Option (Int32 × St) :=
  (if a0 < 0 then
  some (0, σ)
  else (if 16 ≤ a0 then
  some (0, σ)
  else (if a1 < 0 then
  some (0, σ)
  else (if 16 ≤ a1 then
  some (0, σ)
  else some (1, σ)))))
set_option maxHeartbeats 1000000 in
theorem c_Screen_isInside {N : Nat} {g : ax_G} {a0 : Int32} {a1 : Int32} {σ : St} {r9 : Int32} {s9 : St} (hJ : J_Screen_isInside N a0 a1 σ = some (r9, s9)) : ax_CI μ_Screen_isInside g y_Screen_isInside (wC g) [.int a0, .int a1] σ (ax_eqZ r9 s9) := by
  refine ax_CI.of (plainFor_of_name rfl) rfl (Nat.le_of_ble_eq_true rfl) (fun x A _ => ?_)
  show AW x μ_Screen_isInside g A (wC g) (0, 0) (ax_QI x μ_Screen_isInside g A (wC g) (ax_eqZ r9 s9)) 0 [(0, .int a0), (1, .int a1)] [] σ
  rw [J_Screen_isInside] at hJ
  refine aw_iload_n (n := 1) d_Screen_isInside_0 rfl rfl 0 rfl ?_
  refine aw_if_lt (n := 4) (t := 24) d_Screen_isInside_1 rfl (by decide) (fun c1 => ?_) (fun c1 => ?_)
  · rw [if_pos c1] at hJ
    refine aw_iconst (n := 25) (v := 0) d_Screen_isInside_24 rfl (by decide) ?_
    exact aw_zret d_Screen_isInside_25 rfl rfl (ax_retZ hJ rfl)
  · rw [if_neg c1] at hJ
    refine aw_iload_n (n := 5) d_Screen_isInside_4 rfl rfl 0 rfl ?_
    refine aw_bipush (n := 7) (v := 16) d_Screen_isInside_5 rfl (by decide) ?_
    refine aw_icmp_ge (n := 10) (t := 24) d_Screen_isInside_7 rfl (by decide) (fun c2 => ?_) (fun c2 => ?_)
    · rw [if_pos c2] at hJ
      refine aw_iconst (n := 25) (v := 0) d_Screen_isInside_24 rfl (by decide) ?_
      exact aw_zret d_Screen_isInside_25 rfl rfl (ax_retZ hJ rfl)
    · rw [if_neg c2] at hJ
      refine aw_iload_n (n := 11) d_Screen_isInside_10 rfl rfl 1 rfl ?_
      refine aw_if_lt (n := 14) (t := 24) d_Screen_isInside_11 rfl (by decide) (fun c3 => ?_) (fun c3 => ?_)
      · rw [if_pos c3] at hJ
        refine aw_iconst (n := 25) (v := 0) d_Screen_isInside_24 rfl (by decide) ?_
        exact aw_zret d_Screen_isInside_25 rfl rfl (ax_retZ hJ rfl)
      · rw [if_neg c3] at hJ
        refine aw_iload_n (n := 15) d_Screen_isInside_14 rfl rfl 1 rfl ?_
        refine aw_bipush (n := 17) (v := 16) d_Screen_isInside_15 rfl (by decide) ?_
        refine aw_icmp_ge (n := 20) (t := 24) d_Screen_isInside_17 rfl (by decide) (fun c4 => ?_) (fun c4 => ?_)
        · rw [if_pos c4] at hJ
          refine aw_iconst (n := 25) (v := 0) d_Screen_isInside_24 rfl (by decide) ?_
          exact aw_zret d_Screen_isInside_25 rfl rfl (ax_retZ hJ rfl)
        · rw [if_neg c4] at hJ
          refine aw_iconst (n := 21) (v := 1) d_Screen_isInside_20 rfl (by decide) ?_
          refine aw_goto (t := 25) d_Screen_isInside_21 (by decide) ?_
          exact aw_zret d_Screen_isInside_25 rfl rfl (ax_retZ hJ rfl)
