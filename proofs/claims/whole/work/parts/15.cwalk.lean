/-! WALKED: Screen_colourAt, CMath_floorMod, Machine_quotient, Machine_test, Machine_ofTwo, Pad_framesOf, Pad_isDown, Pad_isStruck, Machine_random, Machine_readCell, Machine_ofOne, Machine_workOutNode. Printed by wip/whole/build.py. -/
abbrev b_Screen_colourAt : ByteArray := prog_7_method_3_code
def y_Screen_colourAt : MethodName := ⟨"DotConsole$Screen", "colourAt", "(II)I"⟩
theorem d_Screen_colourAt_0 : decode b_Screen_colourAt 0 = .ok (.iload_n 1, 1) := by decide +kernel
theorem d_Screen_colourAt_1 : decode b_Screen_colourAt 1 = .ok (.iload_n 2, 1) := by decide +kernel
theorem d_Screen_colourAt_2 : decode b_Screen_colourAt 2 = .ok (.invokestatic 15, 3) := by decide +kernel
theorem d_Screen_colourAt_5 : decode b_Screen_colourAt 5 = .ok (.ifCond .eq 17, 3) := by decide +kernel
theorem d_Screen_colourAt_8 : decode b_Screen_colourAt 8 = .ok (.aload_n 0, 1) := by decide +kernel
theorem d_Screen_colourAt_9 : decode b_Screen_colourAt 9 = .ok (.getfield 9, 3) := by decide +kernel
theorem d_Screen_colourAt_12 : decode b_Screen_colourAt 12 = .ok (.iload_n 2, 1) := by decide +kernel
theorem d_Screen_colourAt_13 : decode b_Screen_colourAt 13 = .ok (.bipush 16, 2) := by decide +kernel
theorem d_Screen_colourAt_15 : decode b_Screen_colourAt 15 = .ok (.imul, 1) := by decide +kernel
theorem d_Screen_colourAt_16 : decode b_Screen_colourAt 16 = .ok (.iload_n 1, 1) := by decide +kernel
theorem d_Screen_colourAt_17 : decode b_Screen_colourAt 17 = .ok (.iadd, 1) := by decide +kernel
theorem d_Screen_colourAt_18 : decode b_Screen_colourAt 18 = .ok (.iaload, 1) := by decide +kernel
theorem d_Screen_colourAt_19 : decode b_Screen_colourAt 19 = .ok (.goto 4, 3) := by decide +kernel
theorem d_Screen_colourAt_22 : decode b_Screen_colourAt 22 = .ok (.iconst 0, 1) := by decide +kernel
theorem d_Screen_colourAt_23 : decode b_Screen_colourAt 23 = .ok (.ireturn, 1) := by decide +kernel
def μ_Screen_colourAt : ax_M := (b_Screen_colourAt, 3, "DotConsole$Screen", (some .int), 1, 21, 0, 0)
theorem Y_Screen_colourAt : ax_YV μ_Screen_colourAt y_Screen_colourAt 2 := ⟨⟨ax_mem (by decide +kernel) rfl, ax_mem (by decide +kernel) rfl, by decide, by decide, by decide +kernel⟩, ax_mem (by decide +kernel) rfl, ax_mem (by decide +kernel) rfl⟩
theorem km_Screen_15 : Cond.methodLink "DotConsole$Screen" 15 ⟨"DotConsole$Screen", "isInside", "(II)Z"⟩ ∈ ax_T := ax_mem (by decide +kernel) rfl
theorem kf_Screen_9 : Cond.fieldLink "DotConsole$Screen" 9 "DotConsole$Screen" "dots" "[I" ∈ ax_T := ax_mem (by decide +kernel) rfl
def J_Screen_colourAt (N : Nat) (a1 : Int32) (a2 : Int32) (σ : St) : Option (Int32 × St) :=
  ax_bind (J_Screen_isInside N a1 a2 σ) (fun r1 σ1 =>
  (if r1 = 0 then
  some (0, σ1)
  else (if (inB ((a2 * 16) + a1) 256) = true then some ((σ1.2 22 ((a2 * 16) + a1).toNatClampNeg), σ1) else none)))
set_option maxHeartbeats 1000000 in
theorem c_Screen_colourAt {N : Nat} {g : ax_G} {a1 : Int32} {a2 : Int32} {σ : St} {r9 : Int32} {s9 : St} (hJ : J_Screen_colourAt N a1 a2 σ = some (r9, s9)) : ax_CI μ_Screen_colourAt g y_Screen_colourAt (wC g) [.ref (g.2.1 28), .int a1, .int a2] σ (ax_eqI r9 s9) := by
  refine ax_CI.of (plainFor_of_name rfl) rfl (Nat.le_of_ble_eq_true rfl) (fun x A _ => ?_)
  show AW x μ_Screen_colourAt g A (wC g) (0, 0) (ax_QI x μ_Screen_colourAt g A (wC g) (ax_eqI r9 s9)) 0 [(0, .ref (g.2.1 28)), (1, .int a1), (2, .int a2)] [] σ
  rw [J_Screen_colourAt] at hJ
  refine aw_iload_n (n := 1) d_Screen_colourAt_0 rfl rfl 1 rfl ?_
  refine aw_iload_n (n := 2) d_Screen_colourAt_1 rfl rfl 2 rfl ?_
  obtain ⟨r1, σ1, hc1, hJ⟩ := ax_bindE hJ
  refine aw_callSi (n := 5) (c_Screen_isInside hc1) Y_Screen_isInside km_Screen_15 (by decide) (by decide) rfl rfl (Nat.le_of_ble_eq_true rfl) d_Screen_colourAt_2 rfl (fun r9 s9 hp => ?_)
  obtain ⟨rfl, rfl, hb1⟩ := hp
  refine aw_if_eq (n := 8) (t := 22) d_Screen_colourAt_5 rfl (by decide) (fun c1 => ?_) (fun c1 => ?_)
  · rw [if_pos c1] at hJ
    refine aw_iconst (n := 23) (v := 0) d_Screen_colourAt_22 rfl (by decide) ?_
    exact aw_iret d_Screen_colourAt_23 rfl (ax_ret hJ)
  · rw [if_neg c1] at hJ
    refine aw_aload_n (n := 9) d_Screen_colourAt_8 rfl rfl 0 rfl ?_
    refine gf_Screen_dots (n := 12) d_Screen_colourAt_9 rfl kf_Screen_9 ?_
    refine aw_iload_n (n := 13) d_Screen_colourAt_12 rfl rfl 2 rfl ?_
    refine aw_bipush (n := 15) (v := 16) d_Screen_colourAt_13 rfl (by decide) ?_
    refine aw_imul (n := 16) d_Screen_colourAt_15 rfl ?_
    refine aw_iload_n (n := 17) d_Screen_colourAt_16 rfl rfl 1 rfl ?_
    refine aw_iadd (n := 18) d_Screen_colourAt_17 rfl ?_
    obtain ⟨h1, hJ⟩ := ax_need hJ
    refine al_29 (n := 19) d_Screen_colourAt_18 rfl h1 ?_
    refine aw_goto (t := 23) d_Screen_colourAt_19 (by decide) ?_
    exact aw_iret d_Screen_colourAt_23 rfl (ax_ret hJ)
abbrev b_Math_floorMod : ByteArray := prog_12_method_50_code
def y_Math_floorMod : MethodName := ⟨"java/lang/Math", "floorMod", "(II)I"⟩
theorem d_Math_floorMod_0 : decode b_Math_floorMod 0 = .ok (.iload_n 0, 1) := by decide +kernel
theorem d_Math_floorMod_1 : decode b_Math_floorMod 1 = .ok (.iload_n 1, 1) := by decide +kernel
theorem d_Math_floorMod_2 : decode b_Math_floorMod 2 = .ok (.irem, 1) := by decide +kernel
theorem d_Math_floorMod_3 : decode b_Math_floorMod 3 = .ok (.istore_n 2, 1) := by decide +kernel
theorem d_Math_floorMod_4 : decode b_Math_floorMod 4 = .ok (.iload_n 0, 1) := by decide +kernel
theorem d_Math_floorMod_5 : decode b_Math_floorMod 5 = .ok (.iload_n 1, 1) := by decide +kernel
theorem d_Math_floorMod_6 : decode b_Math_floorMod 6 = .ok (.ixor, 1) := by decide +kernel
theorem d_Math_floorMod_7 : decode b_Math_floorMod 7 = .ok (.ifCond .ge 11, 3) := by decide +kernel
theorem d_Math_floorMod_10 : decode b_Math_floorMod 10 = .ok (.iload_n 2, 1) := by decide +kernel
theorem d_Math_floorMod_11 : decode b_Math_floorMod 11 = .ok (.ifCond .eq 7, 3) := by decide +kernel
theorem d_Math_floorMod_14 : decode b_Math_floorMod 14 = .ok (.iload_n 2, 1) := by decide +kernel
theorem d_Math_floorMod_15 : decode b_Math_floorMod 15 = .ok (.iload_n 1, 1) := by decide +kernel
theorem d_Math_floorMod_16 : decode b_Math_floorMod 16 = .ok (.iadd, 1) := by decide +kernel
theorem d_Math_floorMod_17 : decode b_Math_floorMod 17 = .ok (.ireturn, 1) := by decide +kernel
theorem d_Math_floorMod_18 : decode b_Math_floorMod 18 = .ok (.iload_n 2, 1) := by decide +kernel
theorem d_Math_floorMod_19 : decode b_Math_floorMod 19 = .ok (.ireturn, 1) := by decide +kernel
def μ_CMath_floorMod : ax_M := (b_Math_floorMod, 3, "java/lang/Math", (some .int), 0, 0, 0, 0)
theorem Y_CMath_floorMod : ax_YS μ_CMath_floorMod y_Math_floorMod 2 := ⟨⟨ax_mem (by decide +kernel) rfl, ax_mem (by decide +kernel) rfl, by decide, by decide, by decide +kernel⟩, ax_mem (by decide +kernel) rfl⟩
def J_CMath_floorMod (N : Nat) (a0 : Int32) (a1 : Int32) (σ : St) : Option (Int32 × St) :=
  (if a1 = 0 then none else ax_let ((a0 - a0 / a1 * a1) : Int32) (fun v1 =>
  (if 0 ≤ (a0 ^^^ a1) then
  some (v1, σ)
  else (if v1 = 0 then
  some (v1, σ)
  else some ((v1 + a1), σ)))))
set_option maxHeartbeats 1000000 in
theorem c_CMath_floorMod {N : Nat} {g : ax_G} {a0 : Int32} {a1 : Int32} {σ : St} {r9 : Int32} {s9 : St} (hJ : J_CMath_floorMod N a0 a1 σ = some (r9, s9)) : ax_CI μ_CMath_floorMod g y_Math_floorMod (wC g) [.int a0, .int a1] σ (ax_eqI r9 s9) := by
  refine ax_CI.of (by decide +kernel) rfl (Nat.le_of_ble_eq_true rfl) (fun x A _ => ?_)
  show AW x μ_CMath_floorMod g A (wC g) (0, 0) (ax_QI x μ_CMath_floorMod g A (wC g) (ax_eqI r9 s9)) 0 [(0, .int a0), (1, .int a1)] [] σ
  rw [J_CMath_floorMod] at hJ
  refine aw_iload_n (n := 1) d_Math_floorMod_0 rfl rfl 0 rfl ?_
  refine aw_iload_n (n := 2) d_Math_floorMod_1 rfl rfl 1 rfl ?_
  obtain ⟨h1, hJ⟩ := ax_need0 hJ
  refine aw_irem (n := 3) d_Math_floorMod_2 rfl h1 ?_
  obtain ⟨v1, ev1, hJ⟩ := ax_letE hJ
  refine aw_top ev1 ?_
  refine aw_istore_n (n := 4) d_Math_floorMod_3 rfl rfl (by decide) rfl ?_
  refine aw_iload_n (n := 5) d_Math_floorMod_4 rfl rfl 1 rfl ?_
  refine aw_iload_n (n := 6) d_Math_floorMod_5 rfl rfl 2 rfl ?_
  refine aw_ixor (n := 7) d_Math_floorMod_6 rfl ?_
  refine aw_if_ge (n := 10) (t := 18) d_Math_floorMod_7 rfl (by decide) (fun c1 => ?_) (fun c1 => ?_)
  · rw [if_pos c1] at hJ
    refine aw_iload_n (n := 19) d_Math_floorMod_18 rfl rfl 0 rfl ?_
    exact aw_iret d_Math_floorMod_19 rfl (ax_ret hJ)
  · rw [if_neg c1] at hJ
    refine aw_iload_n (n := 11) d_Math_floorMod_10 rfl rfl 0 rfl ?_
    refine aw_if_eq (n := 14) (t := 18) d_Math_floorMod_11 rfl (by decide) (fun c2 => ?_) (fun c2 => ?_)
    · rw [if_pos c2] at hJ
      refine aw_iload_n (n := 19) d_Math_floorMod_18 rfl rfl 0 rfl ?_
      exact aw_iret d_Math_floorMod_19 rfl (ax_ret hJ)
    · rw [if_neg c2] at hJ
      refine aw_iload_n (n := 15) d_Math_floorMod_14 rfl rfl 0 rfl ?_
      refine aw_iload_n (n := 16) d_Math_floorMod_15 rfl rfl 2 rfl ?_
      refine aw_iadd (n := 17) d_Math_floorMod_16 rfl ?_
      exact aw_iret d_Math_floorMod_17 rfl (ax_ret hJ)
abbrev b_Machine_quotient : ByteArray := prog_3_method_13_code
def y_Machine_quotient : MethodName := ⟨"DotConsole$Machine", "quotient", "(II)I"⟩
theorem d_Machine_quotient_0 : decode b_Machine_quotient 0 = .ok (.iload_n 1, 1) := by decide +kernel
theorem d_Machine_quotient_1 : decode b_Machine_quotient 1 = .ok (.ifCond .ne 15, 3) := by decide +kernel
theorem d_Machine_quotient_4 : decode b_Machine_quotient 4 = .ok (.iload_n 0, 1) := by decide +kernel
theorem d_Machine_quotient_5 : decode b_Machine_quotient 5 = .ok (.ifCond .lt 8, 3) := by decide +kernel
theorem d_Machine_quotient_8 : decode b_Machine_quotient 8 = .ok (.ldc 175, 2) := by decide +kernel
theorem d_Machine_quotient_10 : decode b_Machine_quotient 10 = .ok (.goto 5, 3) := by decide +kernel
theorem d_Machine_quotient_13 : decode b_Machine_quotient 13 = .ok (.ldc 176, 2) := by decide +kernel
theorem d_Machine_quotient_15 : decode b_Machine_quotient 15 = .ok (.ireturn, 1) := by decide +kernel
theorem d_Machine_quotient_16 : decode b_Machine_quotient 16 = .ok (.iload_n 0, 1) := by decide +kernel
theorem d_Machine_quotient_17 : decode b_Machine_quotient 17 = .ok (.i2l, 1) := by decide +kernel
theorem d_Machine_quotient_18 : decode b_Machine_quotient 18 = .ok (.ldc2_w 177, 3) := by decide +kernel
theorem d_Machine_quotient_21 : decode b_Machine_quotient 21 = .ok (.lmul, 1) := by decide +kernel
theorem d_Machine_quotient_22 : decode b_Machine_quotient 22 = .ok (.iload_n 1, 1) := by decide +kernel
theorem d_Machine_quotient_23 : decode b_Machine_quotient 23 = .ok (.i2l, 1) := by decide +kernel
theorem d_Machine_quotient_24 : decode b_Machine_quotient 24 = .ok (.ldiv, 1) := by decide +kernel
theorem d_Machine_quotient_25 : decode b_Machine_quotient 25 = .ok (.l2i, 1) := by decide +kernel
theorem d_Machine_quotient_26 : decode b_Machine_quotient 26 = .ok (.ireturn, 1) := by decide +kernel
def μ_Machine_quotient : ax_M := (b_Machine_quotient, 2, "DotConsole$Machine", (some .int), 0, 0, 0, 0)
theorem Y_Machine_quotient : ax_YS μ_Machine_quotient y_Machine_quotient 2 := ⟨⟨ax_mem (by decide +kernel) rfl, ax_mem (by decide +kernel) rfl, by decide, by decide, by decide +kernel⟩, ax_mem (by decide +kernel) rfl⟩
theorem kc_Machine_177 : Cond.constantLong "DotConsole$Machine" 177 (65536) ∈ ax_T := ax_mem (by decide +kernel) rfl
theorem kc_Machine_176 : Cond.constant "DotConsole$Machine" 176 (-2147483648) ∈ ax_T := ax_mem (by decide +kernel) rfl
theorem kc_Machine_175 : Cond.constant "DotConsole$Machine" 175 (2147483647) ∈ ax_T := ax_mem (by decide +kernel) rfl
def J_Machine_quotient (N : Nat) (a0 : Int32) (a1 : Int32) (σ : St) : Option (Int32 × St) :=
  (if a1 = 0 then
  (if a0 < 0 then
  some ((-2147483648), σ)
  else some (2147483647, σ))
  else (if (a1.toInt64) = 0 then none else some (((((a0.toInt64) * (65536)) / (a1.toInt64)).toInt32), σ)))
set_option maxHeartbeats 1000000 in
theorem c_Machine_quotient {N : Nat} {g : ax_G} {a0 : Int32} {a1 : Int32} {σ : St} {r9 : Int32} {s9 : St} (hJ : J_Machine_quotient N a0 a1 σ = some (r9, s9)) : ax_CI μ_Machine_quotient g y_Machine_quotient (wC g) [.int a0, .int a1] σ (ax_eqI r9 s9) := by
  refine ax_CI.of (plainFor_of_name rfl) rfl (Nat.le_of_ble_eq_true rfl) (fun x A _ => ?_)
  show AW x μ_Machine_quotient g A (wC g) (0, 0) (ax_QI x μ_Machine_quotient g A (wC g) (ax_eqI r9 s9)) 0 [(0, .int a0), (1, .int a1)] [] σ
  rw [J_Machine_quotient] at hJ
  refine aw_iload_n (n := 1) d_Machine_quotient_0 rfl rfl 1 rfl ?_
  refine aw_if_ne (n := 4) (t := 16) d_Machine_quotient_1 rfl (by decide) (fun c1 => ?_) (fun c1 => ?_)
  · rw [if_neg c1] at hJ
    refine aw_iload_n (n := 17) d_Machine_quotient_16 rfl rfl 0 rfl ?_
    refine aw_i2l (n := 18) d_Machine_quotient_17 rfl rfl ?_
    refine aw_ldc2 (n := 21) (v := 65536) d_Machine_quotient_18 rfl kc_Machine_177 ?_
    refine aw_lmul (n := 22) d_Machine_quotient_21 rfl ?_
    refine aw_iload_n (n := 23) d_Machine_quotient_22 rfl rfl 1 rfl ?_
    refine aw_i2l (n := 24) d_Machine_quotient_23 rfl rfl ?_
    obtain ⟨h1, hJ⟩ := ax_need0 hJ
    refine aw_ldiv (n := 25) d_Machine_quotient_24 rfl h1 ?_
    refine aw_l2i (n := 26) d_Machine_quotient_25 rfl rfl ?_
    exact aw_iret d_Machine_quotient_26 rfl (ax_ret hJ)
  · rw [if_pos c1] at hJ
    refine aw_iload_n (n := 5) d_Machine_quotient_4 rfl rfl 0 rfl ?_
    refine aw_if_lt (n := 8) (t := 13) d_Machine_quotient_5 rfl (by decide) (fun c2 => ?_) (fun c2 => ?_)
    · rw [if_pos c2] at hJ
      refine aw_ldc (n := 15) (v := -2147483648) d_Machine_quotient_13 rfl kc_Machine_176 ?_
      exact aw_iret d_Machine_quotient_15 rfl (ax_ret hJ)
    · rw [if_neg c2] at hJ
      refine aw_ldc (n := 10) (v := 2147483647) d_Machine_quotient_8 rfl kc_Machine_175 ?_
      refine aw_goto (t := 15) d_Machine_quotient_10 (by decide) ?_
      exact aw_iret d_Machine_quotient_15 rfl (ax_ret hJ)
abbrev b_Machine_test : ByteArray := prog_3_method_14_code
def y_Machine_test : MethodName := ⟨"DotConsole$Machine", "test", "(Z)I"⟩
theorem d_Machine_test_0 : decode b_Machine_test 0 = .ok (.iload_n 0, 1) := by decide +kernel
theorem d_Machine_test_1 : decode b_Machine_test 1 = .ok (.ifCond .eq 8, 3) := by decide +kernel
theorem d_Machine_test_4 : decode b_Machine_test 4 = .ok (.ldc 146, 2) := by decide +kernel
theorem d_Machine_test_6 : decode b_Machine_test 6 = .ok (.goto 4, 3) := by decide +kernel
theorem d_Machine_test_9 : decode b_Machine_test 9 = .ok (.iconst 0, 1) := by decide +kernel
theorem d_Machine_test_10 : decode b_Machine_test 10 = .ok (.ireturn, 1) := by decide +kernel
def μ_Machine_test : ax_M := (b_Machine_test, 1, "DotConsole$Machine", (some .int), 0, 0, 0, 0)
theorem Y_Machine_test : ax_YS μ_Machine_test y_Machine_test 1 := ⟨⟨ax_mem (by decide +kernel) rfl, ax_mem (by decide +kernel) rfl, by decide, by decide, by decide +kernel⟩, ax_mem (by decide +kernel) rfl⟩
theorem kc_Machine_146 : Cond.constant "DotConsole$Machine" 146 (65536) ∈ ax_T := ax_mem (by decide +kernel) rfl
def J_Machine_test (N : Nat) (a0 : Int32) (σ : St) : Option (Int32 × St) :=
  (if a0 = 0 then
  some (0, σ)
  else some (65536, σ))
set_option maxHeartbeats 1000000 in
theorem c_Machine_test {N : Nat} {g : ax_G} {a0 : Int32} {σ : St} {r9 : Int32} {s9 : St} (hJ : J_Machine_test N a0 σ = some (r9, s9)) : ax_CI μ_Machine_test g y_Machine_test (wC g) [.int a0] σ (ax_eqI r9 s9) := by
  refine ax_CI.of (plainFor_of_name rfl) rfl (Nat.le_of_ble_eq_true rfl) (fun x A _ => ?_)
  show AW x μ_Machine_test g A (wC g) (0, 0) (ax_QI x μ_Machine_test g A (wC g) (ax_eqI r9 s9)) 0 [(0, .int a0)] [] σ
  rw [J_Machine_test] at hJ
  refine aw_iload_n (n := 1) d_Machine_test_0 rfl rfl 0 rfl ?_
  refine aw_if_eq (n := 4) (t := 9) d_Machine_test_1 rfl (by decide) (fun c1 => ?_) (fun c1 => ?_)
  · rw [if_pos c1] at hJ
    refine aw_iconst (n := 10) (v := 0) d_Machine_test_9 rfl (by decide) ?_
    exact aw_iret d_Machine_test_10 rfl (ax_ret hJ)
  · rw [if_neg c1] at hJ
    refine aw_ldc (n := 6) (v := 65536) d_Machine_test_4 rfl kc_Machine_146 ?_
    refine aw_goto (t := 10) d_Machine_test_6 (by decide) ?_
    exact aw_iret d_Machine_test_10 rfl (ax_ret hJ)
abbrev b_Machine_ofTwo : ByteArray := prog_3_method_11_code
def y_Machine_ofTwo : MethodName := ⟨"DotConsole$Machine", "ofTwo", "(III)I"⟩
theorem d_Machine_ofTwo_0 : decode b_Machine_ofTwo 0 = .ok (.iload_n 1, 1) := by decide +kernel
theorem d_Machine_ofTwo_1 : decode b_Machine_ofTwo 1 = .ok (.lookupswitch 234 #[(17, 203), (18, 209), (19, 215), (37, 189), (38, 119), (42, 173), (43, 165), (45, 169), (47, 183), (60, 123), (61, 151), (62, 137), (124, 115)], 115) := by decide +kernel
theorem d_Machine_ofTwo_116 : decode b_Machine_ofTwo 116 = .ok (.iload_n 2, 1) := by decide +kernel
theorem d_Machine_ofTwo_117 : decode b_Machine_ofTwo 117 = .ok (.iload_n 3, 1) := by decide +kernel
theorem d_Machine_ofTwo_118 : decode b_Machine_ofTwo 118 = .ok (.ior, 1) := by decide +kernel
theorem d_Machine_ofTwo_119 : decode b_Machine_ofTwo 119 = .ok (.ireturn, 1) := by decide +kernel
theorem d_Machine_ofTwo_120 : decode b_Machine_ofTwo 120 = .ok (.iload_n 2, 1) := by decide +kernel
theorem d_Machine_ofTwo_121 : decode b_Machine_ofTwo 121 = .ok (.iload_n 3, 1) := by decide +kernel
theorem d_Machine_ofTwo_122 : decode b_Machine_ofTwo 122 = .ok (.iand, 1) := by decide +kernel
theorem d_Machine_ofTwo_123 : decode b_Machine_ofTwo 123 = .ok (.ireturn, 1) := by decide +kernel
theorem d_Machine_ofTwo_124 : decode b_Machine_ofTwo 124 = .ok (.iload_n 2, 1) := by decide +kernel
theorem d_Machine_ofTwo_125 : decode b_Machine_ofTwo 125 = .ok (.iload_n 3, 1) := by decide +kernel
theorem d_Machine_ofTwo_126 : decode b_Machine_ofTwo 126 = .ok (.if_icmp .ge 7, 3) := by decide +kernel
theorem d_Machine_ofTwo_129 : decode b_Machine_ofTwo 129 = .ok (.iconst 1, 1) := by decide +kernel
theorem d_Machine_ofTwo_130 : decode b_Machine_ofTwo 130 = .ok (.goto 4, 3) := by decide +kernel
theorem d_Machine_ofTwo_133 : decode b_Machine_ofTwo 133 = .ok (.iconst 0, 1) := by decide +kernel
theorem d_Machine_ofTwo_134 : decode b_Machine_ofTwo 134 = .ok (.invokestatic 139, 3) := by decide +kernel
theorem d_Machine_ofTwo_137 : decode b_Machine_ofTwo 137 = .ok (.ireturn, 1) := by decide +kernel
theorem d_Machine_ofTwo_138 : decode b_Machine_ofTwo 138 = .ok (.iload_n 2, 1) := by decide +kernel
theorem d_Machine_ofTwo_139 : decode b_Machine_ofTwo 139 = .ok (.iload_n 3, 1) := by decide +kernel
theorem d_Machine_ofTwo_140 : decode b_Machine_ofTwo 140 = .ok (.if_icmp .le 7, 3) := by decide +kernel
theorem d_Machine_ofTwo_143 : decode b_Machine_ofTwo 143 = .ok (.iconst 1, 1) := by decide +kernel
theorem d_Machine_ofTwo_144 : decode b_Machine_ofTwo 144 = .ok (.goto 4, 3) := by decide +kernel
theorem d_Machine_ofTwo_147 : decode b_Machine_ofTwo 147 = .ok (.iconst 0, 1) := by decide +kernel
theorem d_Machine_ofTwo_148 : decode b_Machine_ofTwo 148 = .ok (.invokestatic 139, 3) := by decide +kernel
theorem d_Machine_ofTwo_151 : decode b_Machine_ofTwo 151 = .ok (.ireturn, 1) := by decide +kernel
theorem d_Machine_ofTwo_152 : decode b_Machine_ofTwo 152 = .ok (.iload_n 2, 1) := by decide +kernel
theorem d_Machine_ofTwo_153 : decode b_Machine_ofTwo 153 = .ok (.iload_n 3, 1) := by decide +kernel
theorem d_Machine_ofTwo_154 : decode b_Machine_ofTwo 154 = .ok (.if_icmp .ne 7, 3) := by decide +kernel
theorem d_Machine_ofTwo_157 : decode b_Machine_ofTwo 157 = .ok (.iconst 1, 1) := by decide +kernel
theorem d_Machine_ofTwo_158 : decode b_Machine_ofTwo 158 = .ok (.goto 4, 3) := by decide +kernel
theorem d_Machine_ofTwo_161 : decode b_Machine_ofTwo 161 = .ok (.iconst 0, 1) := by decide +kernel
theorem d_Machine_ofTwo_162 : decode b_Machine_ofTwo 162 = .ok (.invokestatic 139, 3) := by decide +kernel
theorem d_Machine_ofTwo_165 : decode b_Machine_ofTwo 165 = .ok (.ireturn, 1) := by decide +kernel
theorem d_Machine_ofTwo_166 : decode b_Machine_ofTwo 166 = .ok (.iload_n 2, 1) := by decide +kernel
theorem d_Machine_ofTwo_167 : decode b_Machine_ofTwo 167 = .ok (.iload_n 3, 1) := by decide +kernel
theorem d_Machine_ofTwo_168 : decode b_Machine_ofTwo 168 = .ok (.iadd, 1) := by decide +kernel
theorem d_Machine_ofTwo_169 : decode b_Machine_ofTwo 169 = .ok (.ireturn, 1) := by decide +kernel
theorem d_Machine_ofTwo_170 : decode b_Machine_ofTwo 170 = .ok (.iload_n 2, 1) := by decide +kernel
theorem d_Machine_ofTwo_171 : decode b_Machine_ofTwo 171 = .ok (.iload_n 3, 1) := by decide +kernel
theorem d_Machine_ofTwo_172 : decode b_Machine_ofTwo 172 = .ok (.isub, 1) := by decide +kernel
theorem d_Machine_ofTwo_173 : decode b_Machine_ofTwo 173 = .ok (.ireturn, 1) := by decide +kernel
theorem d_Machine_ofTwo_174 : decode b_Machine_ofTwo 174 = .ok (.iload_n 2, 1) := by decide +kernel
theorem d_Machine_ofTwo_175 : decode b_Machine_ofTwo 175 = .ok (.i2l, 1) := by decide +kernel
theorem d_Machine_ofTwo_176 : decode b_Machine_ofTwo 176 = .ok (.iload_n 3, 1) := by decide +kernel
theorem d_Machine_ofTwo_177 : decode b_Machine_ofTwo 177 = .ok (.i2l, 1) := by decide +kernel
theorem d_Machine_ofTwo_178 : decode b_Machine_ofTwo 178 = .ok (.lmul, 1) := by decide +kernel
theorem d_Machine_ofTwo_179 : decode b_Machine_ofTwo 179 = .ok (.bipush 16, 2) := by decide +kernel
theorem d_Machine_ofTwo_181 : decode b_Machine_ofTwo 181 = .ok (.lshr, 1) := by decide +kernel
theorem d_Machine_ofTwo_182 : decode b_Machine_ofTwo 182 = .ok (.l2i, 1) := by decide +kernel
theorem d_Machine_ofTwo_183 : decode b_Machine_ofTwo 183 = .ok (.ireturn, 1) := by decide +kernel
theorem d_Machine_ofTwo_184 : decode b_Machine_ofTwo 184 = .ok (.iload_n 2, 1) := by decide +kernel
theorem d_Machine_ofTwo_185 : decode b_Machine_ofTwo 185 = .ok (.iload_n 3, 1) := by decide +kernel
theorem d_Machine_ofTwo_186 : decode b_Machine_ofTwo 186 = .ok (.invokestatic 157, 3) := by decide +kernel
theorem d_Machine_ofTwo_189 : decode b_Machine_ofTwo 189 = .ok (.ireturn, 1) := by decide +kernel
theorem d_Machine_ofTwo_190 : decode b_Machine_ofTwo 190 = .ok (.iload_n 3, 1) := by decide +kernel
theorem d_Machine_ofTwo_191 : decode b_Machine_ofTwo 191 = .ok (.ifCond .ne 7, 3) := by decide +kernel
theorem d_Machine_ofTwo_194 : decode b_Machine_ofTwo 194 = .ok (.iconst 0, 1) := by decide +kernel
theorem d_Machine_ofTwo_195 : decode b_Machine_ofTwo 195 = .ok (.goto 8, 3) := by decide +kernel
theorem d_Machine_ofTwo_198 : decode b_Machine_ofTwo 198 = .ok (.iload_n 2, 1) := by decide +kernel
theorem d_Machine_ofTwo_199 : decode b_Machine_ofTwo 199 = .ok (.iload_n 3, 1) := by decide +kernel
theorem d_Machine_ofTwo_200 : decode b_Machine_ofTwo 200 = .ok (.invokestatic 160, 3) := by decide +kernel
theorem d_Machine_ofTwo_203 : decode b_Machine_ofTwo 203 = .ok (.ireturn, 1) := by decide +kernel
theorem d_Machine_ofTwo_204 : decode b_Machine_ofTwo 204 = .ok (.iload_n 2, 1) := by decide +kernel
theorem d_Machine_ofTwo_205 : decode b_Machine_ofTwo 205 = .ok (.iload_n 3, 1) := by decide +kernel
theorem d_Machine_ofTwo_206 : decode b_Machine_ofTwo 206 = .ok (.invokestatic 165, 3) := by decide +kernel
theorem d_Machine_ofTwo_209 : decode b_Machine_ofTwo 209 = .ok (.ireturn, 1) := by decide +kernel
theorem d_Machine_ofTwo_210 : decode b_Machine_ofTwo 210 = .ok (.iload_n 2, 1) := by decide +kernel
theorem d_Machine_ofTwo_211 : decode b_Machine_ofTwo 211 = .ok (.iload_n 3, 1) := by decide +kernel
theorem d_Machine_ofTwo_212 : decode b_Machine_ofTwo 212 = .ok (.invokestatic 168, 3) := by decide +kernel
theorem d_Machine_ofTwo_215 : decode b_Machine_ofTwo 215 = .ok (.ireturn, 1) := by decide +kernel
theorem d_Machine_ofTwo_216 : decode b_Machine_ofTwo 216 = .ok (.aload_n 0, 1) := by decide +kernel
theorem d_Machine_ofTwo_217 : decode b_Machine_ofTwo 217 = .ok (.getfield 12, 3) := by decide +kernel
theorem d_Machine_ofTwo_220 : decode b_Machine_ofTwo 220 = .ok (.iload_n 2, 1) := by decide +kernel
theorem d_Machine_ofTwo_221 : decode b_Machine_ofTwo 221 = .ok (.invokestatic 89, 3) := by decide +kernel
theorem d_Machine_ofTwo_224 : decode b_Machine_ofTwo 224 = .ok (.iload_n 3, 1) := by decide +kernel
theorem d_Machine_ofTwo_225 : decode b_Machine_ofTwo 225 = .ok (.invokestatic 89, 3) := by decide +kernel
theorem d_Machine_ofTwo_228 : decode b_Machine_ofTwo 228 = .ok (.invokevirtual 171, 3) := by decide +kernel
theorem d_Machine_ofTwo_231 : decode b_Machine_ofTwo 231 = .ok (.ldc 146, 2) := by decide +kernel
theorem d_Machine_ofTwo_233 : decode b_Machine_ofTwo 233 = .ok (.imul, 1) := by decide +kernel
theorem d_Machine_ofTwo_234 : decode b_Machine_ofTwo 234 = .ok (.ireturn, 1) := by decide +kernel
theorem d_Machine_ofTwo_235 : decode b_Machine_ofTwo 235 = .ok (.iconst 0, 1) := by decide +kernel
theorem d_Machine_ofTwo_236 : decode b_Machine_ofTwo 236 = .ok (.ireturn, 1) := by decide +kernel
def μ_Machine_ofTwo : ax_M := (b_Machine_ofTwo, 4, "DotConsole$Machine", (some .int), 2, 43, 0, 0)
theorem Y_Machine_ofTwo : ax_YV μ_Machine_ofTwo y_Machine_ofTwo 3 := ⟨⟨ax_mem (by decide +kernel) rfl, ax_mem (by decide +kernel) rfl, by decide, by decide, by decide +kernel⟩, ax_mem (by decide +kernel) rfl, ax_mem (by decide +kernel) rfl⟩
theorem km_Machine_165 : Cond.methodLink "DotConsole$Machine" 165 ⟨"java/lang/Math", "min", "(II)I"⟩ ∈ ax_T := ax_mem (by decide +kernel) rfl
theorem km_Machine_168 : Cond.methodLink "DotConsole$Machine" 168 ⟨"java/lang/Math", "max", "(II)I"⟩ ∈ ax_T := ax_mem (by decide +kernel) rfl
theorem kf_Machine_12 : Cond.fieldLink "DotConsole$Machine" 12 "DotConsole$Machine" "screen" "LDotConsole$Screen;" ∈ ax_T := ax_mem (by decide +kernel) rfl
theorem km_Machine_89 : Cond.methodLink "DotConsole$Machine" 89 ⟨"DotConsole$Machine", "floor", "(I)I"⟩ ∈ ax_T := ax_mem (by decide +kernel) rfl
theorem km_Machine_171 : Cond.methodLink "DotConsole$Machine" 171 ⟨"DotConsole$Screen", "colourAt", "(II)I"⟩ ∈ ax_T := ax_mem (by decide +kernel) rfl
theorem km_Machine_160 : Cond.methodLink "DotConsole$Machine" 160 ⟨"java/lang/Math", "floorMod", "(II)I"⟩ ∈ ax_T := ax_mem (by decide +kernel) rfl
theorem km_Machine_157 : Cond.methodLink "DotConsole$Machine" 157 ⟨"DotConsole$Machine", "quotient", "(II)I"⟩ ∈ ax_T := ax_mem (by decide +kernel) rfl
theorem km_Machine_139 : Cond.methodLink "DotConsole$Machine" 139 ⟨"DotConsole$Machine", "test", "(Z)I"⟩ ∈ ax_T := ax_mem (by decide +kernel) rfl
def J_Machine_ofTwo (N : Nat) (a1 : Int32) (a2 : Int32) (a3 : Int32) (σ : St) : Option (Int32 × St) :=
  (if a1 = 17 then ax_bind (J_CMath_min N a2 a3 σ) (fun r1 σ1 =>
  some (r1, σ1))
  else (if a1 = 18 then ax_bind (J_CMath_max N a2 a3 σ) (fun r2 σ2 =>
  some (r2, σ2))
  else (if a1 = 19 then ax_bind (J_Machine_floor N a2 σ) (fun r3 σ3 =>
  ax_bind (J_Machine_floor N a3 σ3) (fun r4 σ4 =>
  ax_bind (J_Screen_colourAt N r3 r4 σ4) (fun r5 σ5 =>
  some ((r5 * 65536), σ5))))
  else (if a1 = 37 then (if a3 = 0 then
  some (0, σ)
  else ax_bind (J_CMath_floorMod N a2 a3 σ) (fun r6 σ6 =>
  some (r6, σ6)))
  else (if a1 = 38 then some ((a2 &&& a3), σ)
  else (if a1 = 42 then some (((((a2.toInt64) * (a3.toInt64)) >>> ((16 : Int32).toInt64 &&& 63)).toInt32), σ)
  else (if a1 = 43 then some ((a2 + a3), σ)
  else (if a1 = 45 then some ((a2 - a3), σ)
  else (if a1 = 47 then ax_bind (J_Machine_quotient N a2 a3 σ) (fun r7 σ7 =>
  some (r7, σ7))
  else (if a1 = 60 then (if a3 ≤ a2 then
  ax_bind (J_Machine_test N 0 σ) (fun r8 σ8 =>
  some (r8, σ8))
  else ax_bind (J_Machine_test N 1 σ) (fun r9 σ9 =>
  some (r9, σ9)))
  else (if a1 = 61 then (if a2 = a3 then
  ax_bind (J_Machine_test N 1 σ) (fun r11 σ11 =>
  some (r11, σ11))
  else ax_bind (J_Machine_test N 0 σ) (fun r10 σ10 =>
  some (r10, σ10)))
  else (if a1 = 62 then (if a2 ≤ a3 then
  ax_bind (J_Machine_test N 0 σ) (fun r12 σ12 =>
  some (r12, σ12))
  else ax_bind (J_Machine_test N 1 σ) (fun r13 σ13 =>
  some (r13, σ13)))
  else (if a1 = 124 then some ((a2 ||| a3), σ)
  else some (0, σ))))))))))))))
set_option maxHeartbeats 1000000 in
theorem c_Machine_ofTwo {N : Nat} {g : ax_G} {a1 : Int32} {a2 : Int32} {a3 : Int32} {σ : St} {r9 : Int32} {s9 : St} (hJ : J_Machine_ofTwo N a1 a2 a3 σ = some (r9, s9)) : ax_CI μ_Machine_ofTwo g y_Machine_ofTwo (wC g) [.ref (g.2.1 24), .int a1, .int a2, .int a3] σ (ax_eqI r9 s9) := by
  refine ax_CI.of (plainFor_of_name rfl) rfl (Nat.le_of_ble_eq_true rfl) (fun x A _ => ?_)
  show AW x μ_Machine_ofTwo g A (wC g) (0, 0) (ax_QI x μ_Machine_ofTwo g A (wC g) (ax_eqI r9 s9)) 0 [(0, .ref (g.2.1 24)), (1, .int a1), (2, .int a2), (3, .int a3)] [] σ
  rw [J_Machine_ofTwo] at hJ
  refine aw_iload_n (n := 1) d_Machine_ofTwo_0 rfl rfl 1 rfl ?_
  rcases ax_ifE hJ with ⟨c1, hJ⟩ | ⟨c1, hJ⟩
  · refine aw_lookup (t := 204) (off := 203) d_Machine_ofTwo_1 (by decide) (by first | (rw [c1]; done) | (rw [c1]; decide)) (by decide) ?_
    refine aw_iload_n (n := 205) d_Machine_ofTwo_204 rfl rfl 2 rfl ?_
    refine aw_iload_n (n := 206) d_Machine_ofTwo_205 rfl rfl 3 rfl ?_
    obtain ⟨r1, σ1, hc1, hJ⟩ := ax_bindE hJ
    refine aw_callSi (n := 209) (c_CMath_min hc1) Y_CMath_min km_Machine_165 (by decide) (by decide) rfl rfl (Nat.le_of_ble_eq_true rfl) d_Machine_ofTwo_206 rfl (fun r9 s9 hp => ?_)
    obtain ⟨rfl, rfl⟩ := hp
    exact aw_iret d_Machine_ofTwo_209 rfl (ax_ret hJ)
  rcases ax_ifE hJ with ⟨c2, hJ⟩ | ⟨c2, hJ⟩
  · refine aw_lookup (t := 210) (off := 209) d_Machine_ofTwo_1 (by decide) (by first | (rw [c2]; done) | (rw [c2]; decide)) (by decide) ?_
    refine aw_iload_n (n := 211) d_Machine_ofTwo_210 rfl rfl 2 rfl ?_
    refine aw_iload_n (n := 212) d_Machine_ofTwo_211 rfl rfl 3 rfl ?_
    obtain ⟨r2, σ2, hc2, hJ⟩ := ax_bindE hJ
    refine aw_callSi (n := 215) (c_CMath_max hc2) Y_CMath_max km_Machine_168 (by decide) (by decide) rfl rfl (Nat.le_of_ble_eq_true rfl) d_Machine_ofTwo_212 rfl (fun r9 s9 hp => ?_)
    obtain ⟨rfl, rfl⟩ := hp
    exact aw_iret d_Machine_ofTwo_215 rfl (ax_ret hJ)
  rcases ax_ifE hJ with ⟨c3, hJ⟩ | ⟨c3, hJ⟩
  · refine aw_lookup (t := 216) (off := 215) d_Machine_ofTwo_1 (by decide) (by first | (rw [c3]; done) | (rw [c3]; decide)) (by decide) ?_
    refine aw_aload_n (n := 217) d_Machine_ofTwo_216 rfl rfl 0 rfl ?_
    refine gf_Machine_screen (n := 220) d_Machine_ofTwo_217 rfl kf_Machine_12 ?_
    refine aw_iload_n (n := 221) d_Machine_ofTwo_220 rfl rfl 2 rfl ?_
    obtain ⟨r3, σ3, hc3, hJ⟩ := ax_bindE hJ
    refine aw_callSi (n := 224) (c_Machine_floor hc3) Y_Machine_floor km_Machine_89 (by decide) (by decide) rfl rfl (Nat.le_of_ble_eq_true rfl) d_Machine_ofTwo_221 rfl (fun r9 s9 hp => ?_)
    obtain ⟨rfl, rfl⟩ := hp
    refine aw_iload_n (n := 225) d_Machine_ofTwo_224 rfl rfl 3 rfl ?_
    obtain ⟨r4, σ4, hc4, hJ⟩ := ax_bindE hJ
    refine aw_callSi (n := 228) (c_Machine_floor hc4) Y_Machine_floor km_Machine_89 (by decide) (by decide) rfl rfl (Nat.le_of_ble_eq_true rfl) d_Machine_ofTwo_225 rfl (fun r9 s9 hp => ?_)
    obtain ⟨rfl, rfl⟩ := hp
    obtain ⟨r5, σ5, hc5, hJ⟩ := ax_bindE hJ
    refine aw_callVi (n := 231) (c_Screen_colourAt hc5) 28 rfl rfl Y_Screen_colourAt km_Machine_171 (by decide) (by decide) rfl rfl (Nat.le_of_ble_eq_true rfl) d_Machine_ofTwo_228 rfl (fun r9 s9 hp => ?_)
    obtain ⟨rfl, rfl⟩ := hp
    refine aw_ldc (n := 233) (v := 65536) d_Machine_ofTwo_231 rfl kc_Machine_146 ?_
    refine aw_imul (n := 234) d_Machine_ofTwo_233 rfl ?_
    exact aw_iret d_Machine_ofTwo_234 rfl (ax_ret hJ)
  rcases ax_ifE hJ with ⟨c4, hJ⟩ | ⟨c4, hJ⟩
  · refine aw_lookup (t := 190) (off := 189) d_Machine_ofTwo_1 (by decide) (by first | (rw [c4]; done) | (rw [c4]; decide)) (by decide) ?_
    refine aw_iload_n (n := 191) d_Machine_ofTwo_190 rfl rfl 3 rfl ?_
    refine aw_if_ne (n := 194) (t := 198) d_Machine_ofTwo_191 rfl (by decide) (fun c5 => ?_) (fun c5 => ?_)
    · rw [if_neg c5] at hJ
      refine aw_iload_n (n := 199) d_Machine_ofTwo_198 rfl rfl 2 rfl ?_
      refine aw_iload_n (n := 200) d_Machine_ofTwo_199 rfl rfl 3 rfl ?_
      obtain ⟨r6, σ6, hc6, hJ⟩ := ax_bindE hJ
      refine aw_callSi (n := 203) (c_CMath_floorMod hc6) Y_CMath_floorMod km_Machine_160 (by decide) (by decide) rfl rfl (Nat.le_of_ble_eq_true rfl) d_Machine_ofTwo_200 rfl (fun r9 s9 hp => ?_)
      obtain ⟨rfl, rfl⟩ := hp
      exact aw_iret d_Machine_ofTwo_203 rfl (ax_ret hJ)
    · rw [if_pos c5] at hJ
      refine aw_iconst (n := 195) (v := 0) d_Machine_ofTwo_194 rfl (by decide) ?_
      refine aw_goto (t := 203) d_Machine_ofTwo_195 (by decide) ?_
      exact aw_iret d_Machine_ofTwo_203 rfl (ax_ret hJ)
  rcases ax_ifE hJ with ⟨c6, hJ⟩ | ⟨c6, hJ⟩
  · refine aw_lookup (t := 120) (off := 119) d_Machine_ofTwo_1 (by decide) (by first | (rw [c6]; done) | (rw [c6]; decide)) (by decide) ?_
    refine aw_iload_n (n := 121) d_Machine_ofTwo_120 rfl rfl 2 rfl ?_
    refine aw_iload_n (n := 122) d_Machine_ofTwo_121 rfl rfl 3 rfl ?_
    refine aw_iand (n := 123) d_Machine_ofTwo_122 rfl ?_
    exact aw_iret d_Machine_ofTwo_123 rfl (ax_ret hJ)
  rcases ax_ifE hJ with ⟨c7, hJ⟩ | ⟨c7, hJ⟩
  · refine aw_lookup (t := 174) (off := 173) d_Machine_ofTwo_1 (by decide) (by first | (rw [c7]; done) | (rw [c7]; decide)) (by decide) ?_
    refine aw_iload_n (n := 175) d_Machine_ofTwo_174 rfl rfl 2 rfl ?_
    refine aw_i2l (n := 176) d_Machine_ofTwo_175 rfl rfl ?_
    refine aw_iload_n (n := 177) d_Machine_ofTwo_176 rfl rfl 3 rfl ?_
    refine aw_i2l (n := 178) d_Machine_ofTwo_177 rfl rfl ?_
    refine aw_lmul (n := 179) d_Machine_ofTwo_178 rfl ?_
    refine aw_bipush (n := 181) (v := 16) d_Machine_ofTwo_179 rfl (by decide) ?_
    refine aw_lshr (n := 182) d_Machine_ofTwo_181 rfl rfl ?_
    refine aw_l2i (n := 183) d_Machine_ofTwo_182 rfl rfl ?_
    exact aw_iret d_Machine_ofTwo_183 rfl (ax_ret hJ)
  rcases ax_ifE hJ with ⟨c8, hJ⟩ | ⟨c8, hJ⟩
  · refine aw_lookup (t := 166) (off := 165) d_Machine_ofTwo_1 (by decide) (by first | (rw [c8]; done) | (rw [c8]; decide)) (by decide) ?_
    refine aw_iload_n (n := 167) d_Machine_ofTwo_166 rfl rfl 2 rfl ?_
    refine aw_iload_n (n := 168) d_Machine_ofTwo_167 rfl rfl 3 rfl ?_
    refine aw_iadd (n := 169) d_Machine_ofTwo_168 rfl ?_
    exact aw_iret d_Machine_ofTwo_169 rfl (ax_ret hJ)
  rcases ax_ifE hJ with ⟨c9, hJ⟩ | ⟨c9, hJ⟩
  · refine aw_lookup (t := 170) (off := 169) d_Machine_ofTwo_1 (by decide) (by first | (rw [c9]; done) | (rw [c9]; decide)) (by decide) ?_
    refine aw_iload_n (n := 171) d_Machine_ofTwo_170 rfl rfl 2 rfl ?_
    refine aw_iload_n (n := 172) d_Machine_ofTwo_171 rfl rfl 3 rfl ?_
    refine aw_isub (n := 173) d_Machine_ofTwo_172 rfl ?_
    exact aw_iret d_Machine_ofTwo_173 rfl (ax_ret hJ)
  rcases ax_ifE hJ with ⟨c10, hJ⟩ | ⟨c10, hJ⟩
  · refine aw_lookup (t := 184) (off := 183) d_Machine_ofTwo_1 (by decide) (by first | (rw [c10]; done) | (rw [c10]; decide)) (by decide) ?_
    refine aw_iload_n (n := 185) d_Machine_ofTwo_184 rfl rfl 2 rfl ?_
    refine aw_iload_n (n := 186) d_Machine_ofTwo_185 rfl rfl 3 rfl ?_
    obtain ⟨r7, σ7, hc7, hJ⟩ := ax_bindE hJ
    refine aw_callSi (n := 189) (c_Machine_quotient hc7) Y_Machine_quotient km_Machine_157 (by decide) (by decide) rfl rfl (Nat.le_of_ble_eq_true rfl) d_Machine_ofTwo_186 rfl (fun r9 s9 hp => ?_)
    obtain ⟨rfl, rfl⟩ := hp
    exact aw_iret d_Machine_ofTwo_189 rfl (ax_ret hJ)
  rcases ax_ifE hJ with ⟨c11, hJ⟩ | ⟨c11, hJ⟩
  · refine aw_lookup (t := 124) (off := 123) d_Machine_ofTwo_1 (by decide) (by first | (rw [c11]; done) | (rw [c11]; decide)) (by decide) ?_
    refine aw_iload_n (n := 125) d_Machine_ofTwo_124 rfl rfl 2 rfl ?_
    refine aw_iload_n (n := 126) d_Machine_ofTwo_125 rfl rfl 3 rfl ?_
    refine aw_icmp_ge (n := 129) (t := 133) d_Machine_ofTwo_126 rfl (by decide) (fun c12 => ?_) (fun c12 => ?_)
    · rw [if_pos c12] at hJ
      refine aw_iconst (n := 134) (v := 0) d_Machine_ofTwo_133 rfl (by decide) ?_
      obtain ⟨r8, σ8, hc8, hJ⟩ := ax_bindE hJ
      refine aw_callSi (n := 137) (c_Machine_test hc8) Y_Machine_test km_Machine_139 (by decide) (by decide) rfl rfl (Nat.le_of_ble_eq_true rfl) d_Machine_ofTwo_134 rfl (fun r9 s9 hp => ?_)
      obtain ⟨rfl, rfl⟩ := hp
      exact aw_iret d_Machine_ofTwo_137 rfl (ax_ret hJ)
    · rw [if_neg c12] at hJ
      refine aw_iconst (n := 130) (v := 1) d_Machine_ofTwo_129 rfl (by decide) ?_
      refine aw_goto (t := 134) d_Machine_ofTwo_130 (by decide) ?_
      obtain ⟨r9, σ9, hc9, hJ⟩ := ax_bindE hJ
      refine aw_callSi (n := 137) (c_Machine_test hc9) Y_Machine_test km_Machine_139 (by decide) (by decide) rfl rfl (Nat.le_of_ble_eq_true rfl) d_Machine_ofTwo_134 rfl (fun r9 s9 hp => ?_)
      obtain ⟨rfl, rfl⟩ := hp
      exact aw_iret d_Machine_ofTwo_137 rfl (ax_ret hJ)
  rcases ax_ifE hJ with ⟨c13, hJ⟩ | ⟨c13, hJ⟩
  · refine aw_lookup (t := 152) (off := 151) d_Machine_ofTwo_1 (by decide) (by first | (rw [c13]; done) | (rw [c13]; decide)) (by decide) ?_
    refine aw_iload_n (n := 153) d_Machine_ofTwo_152 rfl rfl 2 rfl ?_
    refine aw_iload_n (n := 154) d_Machine_ofTwo_153 rfl rfl 3 rfl ?_
    refine aw_icmp_ne (n := 157) (t := 161) d_Machine_ofTwo_154 rfl (by decide) (fun c14 => ?_) (fun c14 => ?_)
    · rw [if_neg c14] at hJ
      refine aw_iconst (n := 162) (v := 0) d_Machine_ofTwo_161 rfl (by decide) ?_
      obtain ⟨r10, σ10, hc10, hJ⟩ := ax_bindE hJ
      refine aw_callSi (n := 165) (c_Machine_test hc10) Y_Machine_test km_Machine_139 (by decide) (by decide) rfl rfl (Nat.le_of_ble_eq_true rfl) d_Machine_ofTwo_162 rfl (fun r9 s9 hp => ?_)
      obtain ⟨rfl, rfl⟩ := hp
      exact aw_iret d_Machine_ofTwo_165 rfl (ax_ret hJ)
    · rw [if_pos c14] at hJ
      refine aw_iconst (n := 158) (v := 1) d_Machine_ofTwo_157 rfl (by decide) ?_
      refine aw_goto (t := 162) d_Machine_ofTwo_158 (by decide) ?_
      obtain ⟨r11, σ11, hc11, hJ⟩ := ax_bindE hJ
      refine aw_callSi (n := 165) (c_Machine_test hc11) Y_Machine_test km_Machine_139 (by decide) (by decide) rfl rfl (Nat.le_of_ble_eq_true rfl) d_Machine_ofTwo_162 rfl (fun r9 s9 hp => ?_)
      obtain ⟨rfl, rfl⟩ := hp
      exact aw_iret d_Machine_ofTwo_165 rfl (ax_ret hJ)
  rcases ax_ifE hJ with ⟨c15, hJ⟩ | ⟨c15, hJ⟩
  · refine aw_lookup (t := 138) (off := 137) d_Machine_ofTwo_1 (by decide) (by first | (rw [c15]; done) | (rw [c15]; decide)) (by decide) ?_
    refine aw_iload_n (n := 139) d_Machine_ofTwo_138 rfl rfl 2 rfl ?_
    refine aw_iload_n (n := 140) d_Machine_ofTwo_139 rfl rfl 3 rfl ?_
    refine aw_icmp_le (n := 143) (t := 147) d_Machine_ofTwo_140 rfl (by decide) (fun c16 => ?_) (fun c16 => ?_)
    · rw [if_pos c16] at hJ
      refine aw_iconst (n := 148) (v := 0) d_Machine_ofTwo_147 rfl (by decide) ?_
      obtain ⟨r12, σ12, hc12, hJ⟩ := ax_bindE hJ
      refine aw_callSi (n := 151) (c_Machine_test hc12) Y_Machine_test km_Machine_139 (by decide) (by decide) rfl rfl (Nat.le_of_ble_eq_true rfl) d_Machine_ofTwo_148 rfl (fun r9 s9 hp => ?_)
      obtain ⟨rfl, rfl⟩ := hp
      exact aw_iret d_Machine_ofTwo_151 rfl (ax_ret hJ)
    · rw [if_neg c16] at hJ
      refine aw_iconst (n := 144) (v := 1) d_Machine_ofTwo_143 rfl (by decide) ?_
      refine aw_goto (t := 148) d_Machine_ofTwo_144 (by decide) ?_
      obtain ⟨r13, σ13, hc13, hJ⟩ := ax_bindE hJ
      refine aw_callSi (n := 151) (c_Machine_test hc13) Y_Machine_test km_Machine_139 (by decide) (by decide) rfl rfl (Nat.le_of_ble_eq_true rfl) d_Machine_ofTwo_148 rfl (fun r9 s9 hp => ?_)
      obtain ⟨rfl, rfl⟩ := hp
      exact aw_iret d_Machine_ofTwo_151 rfl (ax_ret hJ)
  rcases ax_ifE hJ with ⟨c17, hJ⟩ | ⟨c17, hJ⟩
  · refine aw_lookup (t := 116) (off := 115) d_Machine_ofTwo_1 (by decide) (by first | (rw [c17]; done) | (rw [c17]; decide)) (by decide) ?_
    refine aw_iload_n (n := 117) d_Machine_ofTwo_116 rfl rfl 2 rfl ?_
    refine aw_iload_n (n := 118) d_Machine_ofTwo_117 rfl rfl 3 rfl ?_
    refine aw_ior (n := 119) d_Machine_ofTwo_118 rfl ?_
    exact aw_iret d_Machine_ofTwo_119 rfl (ax_ret hJ)
  refine aw_lookup (t := 235) (off := 234) d_Machine_ofTwo_1 (by decide) (show Op.lookupswitch.offset [(17, 203), (18, 209), (19, 215), (37, 189), (38, 119), (42, 173), (43, 165), (45, 169), (47, 183), (60, 123), (61, 151), (62, 137), (124, 115)] 234 _ = 234 by rw [lv_osw (a := 17) c1 (by decide), lv_osw (a := 18) c2 (by decide), lv_osw (a := 19) c3 (by decide), lv_osw (a := 37) c4 (by decide), lv_osw (a := 38) c6 (by decide), lv_osw (a := 42) c7 (by decide), lv_osw (a := 43) c8 (by decide), lv_osw (a := 45) c9 (by decide), lv_osw (a := 47) c10 (by decide), lv_osw (a := 60) c11 (by decide), lv_osw (a := 61) c13 (by decide), lv_osw (a := 62) c15 (by decide), lv_osw (a := 124) c17 (by decide)]; rfl) (by decide) ?_
  refine aw_iconst (n := 236) (v := 0) d_Machine_ofTwo_235 rfl (by decide) ?_
  exact aw_iret d_Machine_ofTwo_236 rfl (ax_ret hJ)
abbrev b_Pad_framesOf : ByteArray := prog_5_method_6_code
def y_Pad_framesOf : MethodName := ⟨"DotConsole$Pad", "framesOf", "(I)I"⟩
theorem d_Pad_framesOf_0 : decode b_Pad_framesOf 0 = .ok (.iload_n 1, 1) := by decide +kernel
theorem d_Pad_framesOf_1 : decode b_Pad_framesOf 1 = .ok (.ifCond .lt 18, 3) := by decide +kernel
theorem d_Pad_framesOf_4 : decode b_Pad_framesOf 4 = .ok (.iload_n 1, 1) := by decide +kernel
theorem d_Pad_framesOf_5 : decode b_Pad_framesOf 5 = .ok (.bipush 6, 2) := by decide +kernel
theorem d_Pad_framesOf_7 : decode b_Pad_framesOf 7 = .ok (.if_icmp .ge 12, 3) := by decide +kernel
theorem d_Pad_framesOf_10 : decode b_Pad_framesOf 10 = .ok (.aload_n 0, 1) := by decide +kernel
theorem d_Pad_framesOf_11 : decode b_Pad_framesOf 11 = .ok (.getfield 9, 3) := by decide +kernel
theorem d_Pad_framesOf_14 : decode b_Pad_framesOf 14 = .ok (.iload_n 1, 1) := by decide +kernel
theorem d_Pad_framesOf_15 : decode b_Pad_framesOf 15 = .ok (.iaload, 1) := by decide +kernel
theorem d_Pad_framesOf_16 : decode b_Pad_framesOf 16 = .ok (.goto 4, 3) := by decide +kernel
theorem d_Pad_framesOf_19 : decode b_Pad_framesOf 19 = .ok (.iconst 0, 1) := by decide +kernel
theorem d_Pad_framesOf_20 : decode b_Pad_framesOf 20 = .ok (.ireturn, 1) := by decide +kernel
def μ_Pad_framesOf : ax_M := (b_Pad_framesOf, 2, "DotConsole$Pad", (some .int), 0, 0, 0, 0)
theorem Y_Pad_framesOf : ax_YV μ_Pad_framesOf y_Pad_framesOf 1 := ⟨⟨ax_mem (by decide +kernel) rfl, ax_mem (by decide +kernel) rfl, by decide, by decide, by decide +kernel⟩, ax_mem (by decide +kernel) rfl, ax_mem (by decide +kernel) rfl⟩
def J_Pad_framesOf (N : Nat) (a1 : Int32) (σ : St) : Option (Int32 × St) :=
  (if a1 < 0 then
  some (0, σ)
  else (if 6 ≤ a1 then
  some (0, σ)
  else (if (inB a1 6) = true then some ((σ.2 23 a1.toNatClampNeg), σ) else none)))
set_option maxHeartbeats 1000000 in
theorem c_Pad_framesOf {N : Nat} {g : ax_G} {a1 : Int32} {σ : St} {r9 : Int32} {s9 : St} (hJ : J_Pad_framesOf N a1 σ = some (r9, s9)) : ax_CI μ_Pad_framesOf g y_Pad_framesOf (wC g) [.ref (g.2.1 30), .int a1] σ (ax_eqI r9 s9) := by
  refine ax_CI.of (plainFor_of_name rfl) rfl (Nat.le_of_ble_eq_true rfl) (fun x A _ => ?_)
  show AW x μ_Pad_framesOf g A (wC g) (0, 0) (ax_QI x μ_Pad_framesOf g A (wC g) (ax_eqI r9 s9)) 0 [(0, .ref (g.2.1 30)), (1, .int a1)] [] σ
  rw [J_Pad_framesOf] at hJ
  refine aw_iload_n (n := 1) d_Pad_framesOf_0 rfl rfl 1 rfl ?_
  refine aw_if_lt (n := 4) (t := 19) d_Pad_framesOf_1 rfl (by decide) (fun c1 => ?_) (fun c1 => ?_)
  · rw [if_pos c1] at hJ
    refine aw_iconst (n := 20) (v := 0) d_Pad_framesOf_19 rfl (by decide) ?_
    exact aw_iret d_Pad_framesOf_20 rfl (ax_ret hJ)
  · rw [if_neg c1] at hJ
    refine aw_iload_n (n := 5) d_Pad_framesOf_4 rfl rfl 1 rfl ?_
    refine aw_bipush (n := 7) (v := 6) d_Pad_framesOf_5 rfl (by decide) ?_
    refine aw_icmp_ge (n := 10) (t := 19) d_Pad_framesOf_7 rfl (by decide) (fun c2 => ?_) (fun c2 => ?_)
    · rw [if_pos c2] at hJ
      refine aw_iconst (n := 20) (v := 0) d_Pad_framesOf_19 rfl (by decide) ?_
      exact aw_iret d_Pad_framesOf_20 rfl (ax_ret hJ)
    · rw [if_neg c2] at hJ
      refine aw_aload_n (n := 11) d_Pad_framesOf_10 rfl rfl 0 rfl ?_
      refine gf_Pad_framesDown (n := 14) d_Pad_framesOf_11 rfl kf_Pad_9 ?_
      refine aw_iload_n (n := 15) d_Pad_framesOf_14 rfl rfl 1 rfl ?_
      obtain ⟨h1, hJ⟩ := ax_need hJ
      refine al_31 (n := 16) d_Pad_framesOf_15 rfl h1 ?_
      refine aw_goto (t := 20) d_Pad_framesOf_16 (by decide) ?_
      exact aw_iret d_Pad_framesOf_20 rfl (ax_ret hJ)
abbrev b_Pad_isDown : ByteArray := prog_5_method_4_code
def y_Pad_isDown : MethodName := ⟨"DotConsole$Pad", "isDown", "(I)Z"⟩
theorem d_Pad_isDown_0 : decode b_Pad_isDown 0 = .ok (.aload_n 0, 1) := by decide +kernel
theorem d_Pad_isDown_1 : decode b_Pad_isDown 1 = .ok (.iload_n 1, 1) := by decide +kernel
theorem d_Pad_isDown_2 : decode b_Pad_isDown 2 = .ok (.invokevirtual 21, 3) := by decide +kernel
theorem d_Pad_isDown_5 : decode b_Pad_isDown 5 = .ok (.ifCond .le 7, 3) := by decide +kernel
theorem d_Pad_isDown_8 : decode b_Pad_isDown 8 = .ok (.iconst 1, 1) := by decide +kernel
theorem d_Pad_isDown_9 : decode b_Pad_isDown 9 = .ok (.goto 4, 3) := by decide +kernel
theorem d_Pad_isDown_12 : decode b_Pad_isDown 12 = .ok (.iconst 0, 1) := by decide +kernel
theorem d_Pad_isDown_13 : decode b_Pad_isDown 13 = .ok (.ireturn, 1) := by decide +kernel
def μ_Pad_isDown : ax_M := (b_Pad_isDown, 2, "DotConsole$Pad", (some .boolean), 1, 21, 0, 0)
theorem Y_Pad_isDown : ax_YV μ_Pad_isDown y_Pad_isDown 1 := ⟨⟨ax_mem (by decide +kernel) rfl, ax_mem (by decide +kernel) rfl, by decide, by decide, by decide +kernel⟩, ax_mem (by decide +kernel) rfl, ax_mem (by decide +kernel) rfl⟩
theorem km_Pad_21 : Cond.methodLink "DotConsole$Pad" 21 ⟨"DotConsole$Pad", "framesOf", "(I)I"⟩ ∈ ax_T := ax_mem (by decide +kernel) rfl
def J_Pad_isDown (N : Nat) (a1 : Int32) (σ : St) : Option (Int32 × St) :=
  ax_bind (J_Pad_framesOf N a1 σ) (fun r1 σ1 =>
  (if r1 ≤ 0 then
  some (0, σ1)
  else some (1, σ1)))
set_option maxHeartbeats 1000000 in
theorem c_Pad_isDown {N : Nat} {g : ax_G} {a1 : Int32} {σ : St} {r9 : Int32} {s9 : St} (hJ : J_Pad_isDown N a1 σ = some (r9, s9)) : ax_CI μ_Pad_isDown g y_Pad_isDown (wC g) [.ref (g.2.1 30), .int a1] σ (ax_eqZ r9 s9) := by
  refine ax_CI.of (plainFor_of_name rfl) rfl (Nat.le_of_ble_eq_true rfl) (fun x A _ => ?_)
  show AW x μ_Pad_isDown g A (wC g) (0, 0) (ax_QI x μ_Pad_isDown g A (wC g) (ax_eqZ r9 s9)) 0 [(0, .ref (g.2.1 30)), (1, .int a1)] [] σ
  rw [J_Pad_isDown] at hJ
  refine aw_aload_n (n := 1) d_Pad_isDown_0 rfl rfl 0 rfl ?_
  refine aw_iload_n (n := 2) d_Pad_isDown_1 rfl rfl 1 rfl ?_
  obtain ⟨r1, σ1, hc1, hJ⟩ := ax_bindE hJ
  refine aw_callVi (n := 5) (c_Pad_framesOf hc1) 30 rfl rfl Y_Pad_framesOf km_Pad_21 (by decide) (by decide) rfl rfl (Nat.le_of_ble_eq_true rfl) d_Pad_isDown_2 rfl (fun r9 s9 hp => ?_)
  obtain ⟨rfl, rfl⟩ := hp
  refine aw_if_le (n := 8) (t := 12) d_Pad_isDown_5 rfl (by decide) (fun c1 => ?_) (fun c1 => ?_)
  · rw [if_pos c1] at hJ
    refine aw_iconst (n := 13) (v := 0) d_Pad_isDown_12 rfl (by decide) ?_
    exact aw_zret d_Pad_isDown_13 rfl rfl (ax_retZ hJ rfl)
  · rw [if_neg c1] at hJ
    refine aw_iconst (n := 9) (v := 1) d_Pad_isDown_8 rfl (by decide) ?_
    refine aw_goto (t := 13) d_Pad_isDown_9 (by decide) ?_
    exact aw_zret d_Pad_isDown_13 rfl rfl (ax_retZ hJ rfl)
abbrev b_Pad_isStruck : ByteArray := prog_5_method_5_code
def y_Pad_isStruck : MethodName := ⟨"DotConsole$Pad", "isStruck", "(I)Z"⟩
theorem d_Pad_isStruck_0 : decode b_Pad_isStruck 0 = .ok (.aload_n 0, 1) := by decide +kernel
theorem d_Pad_isStruck_1 : decode b_Pad_isStruck 1 = .ok (.iload_n 1, 1) := by decide +kernel
theorem d_Pad_isStruck_2 : decode b_Pad_isStruck 2 = .ok (.invokevirtual 21, 3) := by decide +kernel
theorem d_Pad_isStruck_5 : decode b_Pad_isStruck 5 = .ok (.istore_n 2, 1) := by decide +kernel
theorem d_Pad_isStruck_6 : decode b_Pad_isStruck 6 = .ok (.iload_n 2, 1) := by decide +kernel
theorem d_Pad_isStruck_7 : decode b_Pad_isStruck 7 = .ok (.iconst 1, 1) := by decide +kernel
theorem d_Pad_isStruck_8 : decode b_Pad_isStruck 8 = .ok (.if_icmp .eq 18, 3) := by decide +kernel
theorem d_Pad_isStruck_11 : decode b_Pad_isStruck 11 = .ok (.iload_n 2, 1) := by decide +kernel
theorem d_Pad_isStruck_12 : decode b_Pad_isStruck 12 = .ok (.bipush 9, 2) := by decide +kernel
theorem d_Pad_isStruck_14 : decode b_Pad_isStruck 14 = .ok (.if_icmp .lt 16, 3) := by decide +kernel
theorem d_Pad_isStruck_17 : decode b_Pad_isStruck 17 = .ok (.iload_n 2, 1) := by decide +kernel
theorem d_Pad_isStruck_18 : decode b_Pad_isStruck 18 = .ok (.bipush 9, 2) := by decide +kernel
theorem d_Pad_isStruck_20 : decode b_Pad_isStruck 20 = .ok (.isub, 1) := by decide +kernel
theorem d_Pad_isStruck_21 : decode b_Pad_isStruck 21 = .ok (.iconst 4, 1) := by decide +kernel
theorem d_Pad_isStruck_22 : decode b_Pad_isStruck 22 = .ok (.irem, 1) := by decide +kernel
theorem d_Pad_isStruck_23 : decode b_Pad_isStruck 23 = .ok (.ifCond .ne 7, 3) := by decide +kernel
theorem d_Pad_isStruck_26 : decode b_Pad_isStruck 26 = .ok (.iconst 1, 1) := by decide +kernel
theorem d_Pad_isStruck_27 : decode b_Pad_isStruck 27 = .ok (.goto 4, 3) := by decide +kernel
theorem d_Pad_isStruck_30 : decode b_Pad_isStruck 30 = .ok (.iconst 0, 1) := by decide +kernel
theorem d_Pad_isStruck_31 : decode b_Pad_isStruck 31 = .ok (.ireturn, 1) := by decide +kernel
def μ_Pad_isStruck : ax_M := (b_Pad_isStruck, 3, "DotConsole$Pad", (some .boolean), 1, 21, 0, 0)
theorem Y_Pad_isStruck : ax_YV μ_Pad_isStruck y_Pad_isStruck 1 := ⟨⟨ax_mem (by decide +kernel) rfl, ax_mem (by decide +kernel) rfl, by decide, by decide, by decide +kernel⟩, ax_mem (by decide +kernel) rfl, ax_mem (by decide +kernel) rfl⟩
def J_Pad_isStruck (N : Nat) (a1 : Int32) (σ : St) : Option (Int32 × St) :=
  ax_bind (J_Pad_framesOf N a1 σ) (fun r1 σ1 =>
  (if r1 = 1 then
  some (1, σ1)
  else (if r1 < 9 then
  some (0, σ1)
  else (if ((r1 - 9) - (r1 - 9) / 4 * 4) = 0 then
  some (1, σ1)
  else some (0, σ1)))))
set_option maxHeartbeats 1000000 in
theorem c_Pad_isStruck {N : Nat} {g : ax_G} {a1 : Int32} {σ : St} {r9 : Int32} {s9 : St} (hJ : J_Pad_isStruck N a1 σ = some (r9, s9)) : ax_CI μ_Pad_isStruck g y_Pad_isStruck (wC g) [.ref (g.2.1 30), .int a1] σ (ax_eqZ r9 s9) := by
  refine ax_CI.of (plainFor_of_name rfl) rfl (Nat.le_of_ble_eq_true rfl) (fun x A _ => ?_)
  show AW x μ_Pad_isStruck g A (wC g) (0, 0) (ax_QI x μ_Pad_isStruck g A (wC g) (ax_eqZ r9 s9)) 0 [(0, .ref (g.2.1 30)), (1, .int a1)] [] σ
  rw [J_Pad_isStruck] at hJ
  refine aw_aload_n (n := 1) d_Pad_isStruck_0 rfl rfl 0 rfl ?_
  refine aw_iload_n (n := 2) d_Pad_isStruck_1 rfl rfl 1 rfl ?_
  obtain ⟨r1, σ1, hc1, hJ⟩ := ax_bindE hJ
  refine aw_callVi (n := 5) (c_Pad_framesOf hc1) 30 rfl rfl Y_Pad_framesOf km_Pad_21 (by decide) (by decide) rfl rfl (Nat.le_of_ble_eq_true rfl) d_Pad_isStruck_2 rfl (fun r9 s9 hp => ?_)
  obtain ⟨rfl, rfl⟩ := hp
  refine aw_istore_n (n := 6) d_Pad_isStruck_5 rfl rfl (by decide) rfl ?_
  refine aw_iload_n (n := 7) d_Pad_isStruck_6 rfl rfl 0 rfl ?_
  refine aw_iconst (n := 8) (v := 1) d_Pad_isStruck_7 rfl (by decide) ?_
  refine aw_icmp_eq (n := 11) (t := 26) d_Pad_isStruck_8 rfl (by decide) (fun c1 => ?_) (fun c1 => ?_)
  · rw [if_pos c1] at hJ
    refine aw_iconst (n := 27) (v := 1) d_Pad_isStruck_26 rfl (by decide) ?_
    refine aw_goto (t := 31) d_Pad_isStruck_27 (by decide) ?_
    exact aw_zret d_Pad_isStruck_31 rfl rfl (ax_retZ hJ rfl)
  · rw [if_neg c1] at hJ
    refine aw_iload_n (n := 12) d_Pad_isStruck_11 rfl rfl 0 rfl ?_
    refine aw_bipush (n := 14) (v := 9) d_Pad_isStruck_12 rfl (by decide) ?_
    refine aw_icmp_lt (n := 17) (t := 30) d_Pad_isStruck_14 rfl (by decide) (fun c2 => ?_) (fun c2 => ?_)
    · rw [if_pos c2] at hJ
      refine aw_iconst (n := 31) (v := 0) d_Pad_isStruck_30 rfl (by decide) ?_
      exact aw_zret d_Pad_isStruck_31 rfl rfl (ax_retZ hJ rfl)
    · rw [if_neg c2] at hJ
      refine aw_iload_n (n := 18) d_Pad_isStruck_17 rfl rfl 0 rfl ?_
      refine aw_bipush (n := 20) (v := 9) d_Pad_isStruck_18 rfl (by decide) ?_
      refine aw_isub (n := 21) d_Pad_isStruck_20 rfl ?_
      refine aw_iconst (n := 22) (v := 4) d_Pad_isStruck_21 rfl (by decide) ?_
      refine aw_irem (n := 23) d_Pad_isStruck_22 rfl (by decide) ?_
      refine aw_if_ne (n := 26) (t := 30) d_Pad_isStruck_23 rfl (by decide) (fun c3 => ?_) (fun c3 => ?_)
      · rw [if_neg c3] at hJ
        refine aw_iconst (n := 31) (v := 0) d_Pad_isStruck_30 rfl (by decide) ?_
        exact aw_zret d_Pad_isStruck_31 rfl rfl (ax_retZ hJ rfl)
      · rw [if_pos c3] at hJ
        refine aw_iconst (n := 27) (v := 1) d_Pad_isStruck_26 rfl (by decide) ?_
        refine aw_goto (t := 31) d_Pad_isStruck_27 (by decide) ?_
        exact aw_zret d_Pad_isStruck_31 rfl rfl (ax_retZ hJ rfl)
abbrev b_Machine_random : ByteArray := prog_3_method_12_code
def y_Machine_random : MethodName := ⟨"DotConsole$Machine", "random", "(I)I"⟩
theorem d_Machine_random_0 : decode b_Machine_random 0 = .ok (.aload_n 0, 1) := by decide +kernel
theorem d_Machine_random_1 : decode b_Machine_random 1 = .ok (.aload_n 0, 1) := by decide +kernel
theorem d_Machine_random_2 : decode b_Machine_random 2 = .ok (.getfield 32, 3) := by decide +kernel
theorem d_Machine_random_5 : decode b_Machine_random 5 = .ok (.ldc 174, 2) := by decide +kernel
theorem d_Machine_random_7 : decode b_Machine_random 7 = .ok (.imul, 1) := by decide +kernel
theorem d_Machine_random_8 : decode b_Machine_random 8 = .ok (.sipush 12345, 3) := by decide +kernel
theorem d_Machine_random_11 : decode b_Machine_random 11 = .ok (.iadd, 1) := by decide +kernel
theorem d_Machine_random_12 : decode b_Machine_random 12 = .ok (.putfield 32, 3) := by decide +kernel
theorem d_Machine_random_15 : decode b_Machine_random 15 = .ok (.aload_n 0, 1) := by decide +kernel
theorem d_Machine_random_16 : decode b_Machine_random 16 = .ok (.getfield 32, 3) := by decide +kernel
theorem d_Machine_random_19 : decode b_Machine_random 19 = .ok (.bipush 16, 2) := by decide +kernel
theorem d_Machine_random_21 : decode b_Machine_random 21 = .ok (.iushr, 1) := by decide +kernel
theorem d_Machine_random_22 : decode b_Machine_random 22 = .ok (.i2l, 1) := by decide +kernel
theorem d_Machine_random_23 : decode b_Machine_random 23 = .ok (.iload_n 1, 1) := by decide +kernel
theorem d_Machine_random_24 : decode b_Machine_random 24 = .ok (.i2l, 1) := by decide +kernel
theorem d_Machine_random_25 : decode b_Machine_random 25 = .ok (.lmul, 1) := by decide +kernel
theorem d_Machine_random_26 : decode b_Machine_random 26 = .ok (.bipush 16, 2) := by decide +kernel
theorem d_Machine_random_28 : decode b_Machine_random 28 = .ok (.lshr, 1) := by decide +kernel
theorem d_Machine_random_29 : decode b_Machine_random 29 = .ok (.l2i, 1) := by decide +kernel
theorem d_Machine_random_30 : decode b_Machine_random 30 = .ok (.ireturn, 1) := by decide +kernel
def μ_Machine_random : ax_M := (b_Machine_random, 2, "DotConsole$Machine", (some .int), 0, 0, 0, 0)
theorem Y_Machine_random : ax_YV μ_Machine_random y_Machine_random 1 := ⟨⟨ax_mem (by decide +kernel) rfl, ax_mem (by decide +kernel) rfl, by decide, by decide, by decide +kernel⟩, ax_mem (by decide +kernel) rfl, ax_mem (by decide +kernel) rfl⟩
theorem kf_Machine_32 : Cond.fieldLink "DotConsole$Machine" 32 "DotConsole$Machine" "seed" "I" ∈ ax_T := ax_mem (by decide +kernel) rfl
theorem kc_Machine_174 : Cond.constant "DotConsole$Machine" 174 (1103515245) ∈ ax_T := ax_mem (by decide +kernel) rfl
def J_Machine_random (N : Nat) (a1 : Int32) (σ : St) : Option (Int32 × St) :=
  ax_let (sF σ 19 (((σ.1 19) * 1103515245) + 12345)) (fun σ1 =>
  some ((((((((σ1.1 19).toUInt32 >>> ((16 : Int32).toUInt32 &&& Int32.toUInt32 31)).toInt32).toInt64) * (a1.toInt64)) >>> ((16 : Int32).toInt64 &&& 63)).toInt32), σ1))
set_option maxHeartbeats 1000000 in
theorem c_Machine_random {N : Nat} {g : ax_G} {a1 : Int32} {σ : St} {r9 : Int32} {s9 : St} (hJ : J_Machine_random N a1 σ = some (r9, s9)) : ax_CI μ_Machine_random g y_Machine_random (wC g) [.ref (g.2.1 24), .int a1] σ (ax_eqI r9 s9) := by
  refine ax_CI.of (plainFor_of_name rfl) rfl (Nat.le_of_ble_eq_true rfl) (fun x A _ => ?_)
  show AW x μ_Machine_random g A (wC g) (0, 0) (ax_QI x μ_Machine_random g A (wC g) (ax_eqI r9 s9)) 0 [(0, .ref (g.2.1 24)), (1, .int a1)] [] σ
  rw [J_Machine_random] at hJ
  refine aw_aload_n (n := 1) d_Machine_random_0 rfl rfl 0 rfl ?_
  refine aw_aload_n (n := 2) d_Machine_random_1 rfl rfl 0 rfl ?_
  refine gf_Machine_seed (n := 5) d_Machine_random_2 rfl kf_Machine_32 ?_
  refine aw_ldc (n := 7) (v := 1103515245) d_Machine_random_5 rfl kc_Machine_174 ?_
  refine aw_imul (n := 8) d_Machine_random_7 rfl ?_
  refine aw_sipush (n := 11) (v := 12345) d_Machine_random_8 rfl (by decide) ?_
  refine aw_iadd (n := 12) d_Machine_random_11 rfl ?_
  refine pf_Machine_seed (n := 15) d_Machine_random_12 rfl kf_Machine_32 ?_
  obtain ⟨σ1, eσ1, hJ⟩ := ax_letE hJ
  refine aw_let eσ1 ?_
  refine aw_aload_n (n := 16) d_Machine_random_15 rfl rfl 0 rfl ?_
  refine gf_Machine_seed (n := 19) d_Machine_random_16 rfl kf_Machine_32 ?_
  refine aw_bipush (n := 21) (v := 16) d_Machine_random_19 rfl (by decide) ?_
  refine aw_iushr (n := 22) d_Machine_random_21 rfl rfl ?_
  refine aw_i2l (n := 23) d_Machine_random_22 rfl rfl ?_
  refine aw_iload_n (n := 24) d_Machine_random_23 rfl rfl 1 rfl ?_
  refine aw_i2l (n := 25) d_Machine_random_24 rfl rfl ?_
  refine aw_lmul (n := 26) d_Machine_random_25 rfl ?_
  refine aw_bipush (n := 28) (v := 16) d_Machine_random_26 rfl (by decide) ?_
  refine aw_lshr (n := 29) d_Machine_random_28 rfl rfl ?_
  refine aw_l2i (n := 30) d_Machine_random_29 rfl rfl ?_
  exact aw_iret d_Machine_random_30 rfl (ax_ret hJ)
abbrev b_Machine_readCell : ByteArray := prog_3_method_3_code
def y_Machine_readCell : MethodName := ⟨"DotConsole$Machine", "readCell", "(I)I"⟩
theorem d_Machine_readCell_0 : decode b_Machine_readCell 0 = .ok (.iload_n 1, 1) := by decide +kernel
theorem d_Machine_readCell_1 : decode b_Machine_readCell 1 = .ok (.ifCond .lt 18, 3) := by decide +kernel
theorem d_Machine_readCell_4 : decode b_Machine_readCell 4 = .ok (.iload_n 1, 1) := by decide +kernel
theorem d_Machine_readCell_5 : decode b_Machine_readCell 5 = .ok (.bipush 32, 2) := by decide +kernel
theorem d_Machine_readCell_7 : decode b_Machine_readCell 7 = .ok (.if_icmp .ge 12, 3) := by decide +kernel
theorem d_Machine_readCell_10 : decode b_Machine_readCell 10 = .ok (.aload_n 0, 1) := by decide +kernel
theorem d_Machine_readCell_11 : decode b_Machine_readCell 11 = .ok (.getfield 29, 3) := by decide +kernel
theorem d_Machine_readCell_14 : decode b_Machine_readCell 14 = .ok (.iload_n 1, 1) := by decide +kernel
theorem d_Machine_readCell_15 : decode b_Machine_readCell 15 = .ok (.iaload, 1) := by decide +kernel
theorem d_Machine_readCell_16 : decode b_Machine_readCell 16 = .ok (.goto 4, 3) := by decide +kernel
theorem d_Machine_readCell_19 : decode b_Machine_readCell 19 = .ok (.iconst 0, 1) := by decide +kernel
theorem d_Machine_readCell_20 : decode b_Machine_readCell 20 = .ok (.ireturn, 1) := by decide +kernel
def μ_Machine_readCell : ax_M := (b_Machine_readCell, 2, "DotConsole$Machine", (some .int), 0, 0, 0, 0)
theorem Y_Machine_readCell : ax_YV μ_Machine_readCell y_Machine_readCell 1 := ⟨⟨ax_mem (by decide +kernel) rfl, ax_mem (by decide +kernel) rfl, by decide, by decide, by decide +kernel⟩, ax_mem (by decide +kernel) rfl, ax_mem (by decide +kernel) rfl⟩
theorem kf_Machine_29 : Cond.fieldLink "DotConsole$Machine" 29 "DotConsole$Machine" "cells" "[I" ∈ ax_T := ax_mem (by decide +kernel) rfl
def J_Machine_readCell (N : Nat) (a1 : Int32) (σ : St) : Option (Int32 × St) :=
  (if a1 < 0 then
  some (0, σ)
  else (if 32 ≤ a1 then
  some (0, σ)
  else (if (inB a1 32) = true then some ((σ.2 20 a1.toNatClampNeg), σ) else none)))
set_option maxHeartbeats 1000000 in
theorem c_Machine_readCell {N : Nat} {g : ax_G} {a1 : Int32} {σ : St} {r9 : Int32} {s9 : St} (hJ : J_Machine_readCell N a1 σ = some (r9, s9)) : ax_CI μ_Machine_readCell g y_Machine_readCell (wC g) [.ref (g.2.1 24), .int a1] σ (ax_eqI r9 s9) := by
  refine ax_CI.of (plainFor_of_name rfl) rfl (Nat.le_of_ble_eq_true rfl) (fun x A _ => ?_)
  show AW x μ_Machine_readCell g A (wC g) (0, 0) (ax_QI x μ_Machine_readCell g A (wC g) (ax_eqI r9 s9)) 0 [(0, .ref (g.2.1 24)), (1, .int a1)] [] σ
  rw [J_Machine_readCell] at hJ
  refine aw_iload_n (n := 1) d_Machine_readCell_0 rfl rfl 1 rfl ?_
  refine aw_if_lt (n := 4) (t := 19) d_Machine_readCell_1 rfl (by decide) (fun c1 => ?_) (fun c1 => ?_)
  · rw [if_pos c1] at hJ
    refine aw_iconst (n := 20) (v := 0) d_Machine_readCell_19 rfl (by decide) ?_
    exact aw_iret d_Machine_readCell_20 rfl (ax_ret hJ)
  · rw [if_neg c1] at hJ
    refine aw_iload_n (n := 5) d_Machine_readCell_4 rfl rfl 1 rfl ?_
    refine aw_bipush (n := 7) (v := 32) d_Machine_readCell_5 rfl (by decide) ?_
    refine aw_icmp_ge (n := 10) (t := 19) d_Machine_readCell_7 rfl (by decide) (fun c2 => ?_) (fun c2 => ?_)
    · rw [if_pos c2] at hJ
      refine aw_iconst (n := 20) (v := 0) d_Machine_readCell_19 rfl (by decide) ?_
      exact aw_iret d_Machine_readCell_20 rfl (ax_ret hJ)
    · rw [if_neg c2] at hJ
      refine aw_aload_n (n := 11) d_Machine_readCell_10 rfl rfl 0 rfl ?_
      refine gf_Machine_cells (n := 14) d_Machine_readCell_11 rfl kf_Machine_29 ?_
      refine aw_iload_n (n := 15) d_Machine_readCell_14 rfl rfl 1 rfl ?_
      obtain ⟨h1, hJ⟩ := ax_need hJ
      refine al_26 (n := 16) d_Machine_readCell_15 rfl h1 ?_
      refine aw_goto (t := 20) d_Machine_readCell_16 (by decide) ?_
      exact aw_iret d_Machine_readCell_20 rfl (ax_ret hJ)
abbrev b_Machine_ofOne : ByteArray := prog_3_method_10_code
def y_Machine_ofOne : MethodName := ⟨"DotConsole$Machine", "ofOne", "(II)I"⟩
theorem d_Machine_ofOne_0 : decode b_Machine_ofOne 0 = .ok (.iload_n 1, 1) := by decide +kernel
theorem d_Machine_ofOne_1 : decode b_Machine_ofOne 1 = .ok (.lookupswitch 155 #[(13, 100), (14, 111), (15, 119), (16, 134), (20, 149), (21, 75), (33, 78), (64, 91)], 75) := by decide +kernel
theorem d_Machine_ofOne_76 : decode b_Machine_ofOne 76 = .ok (.iload_n 2, 1) := by decide +kernel
theorem d_Machine_ofOne_77 : decode b_Machine_ofOne 77 = .ok (.ineg, 1) := by decide +kernel
theorem d_Machine_ofOne_78 : decode b_Machine_ofOne 78 = .ok (.ireturn, 1) := by decide +kernel
theorem d_Machine_ofOne_79 : decode b_Machine_ofOne 79 = .ok (.iload_n 2, 1) := by decide +kernel
theorem d_Machine_ofOne_80 : decode b_Machine_ofOne 80 = .ok (.ifCond .ne 7, 3) := by decide +kernel
theorem d_Machine_ofOne_83 : decode b_Machine_ofOne 83 = .ok (.iconst 1, 1) := by decide +kernel
theorem d_Machine_ofOne_84 : decode b_Machine_ofOne 84 = .ok (.goto 4, 3) := by decide +kernel
theorem d_Machine_ofOne_87 : decode b_Machine_ofOne 87 = .ok (.iconst 0, 1) := by decide +kernel
theorem d_Machine_ofOne_88 : decode b_Machine_ofOne 88 = .ok (.invokestatic 139, 3) := by decide +kernel
theorem d_Machine_ofOne_91 : decode b_Machine_ofOne 91 = .ok (.ireturn, 1) := by decide +kernel
theorem d_Machine_ofOne_92 : decode b_Machine_ofOne 92 = .ok (.aload_n 0, 1) := by decide +kernel
theorem d_Machine_ofOne_93 : decode b_Machine_ofOne 93 = .ok (.iload_n 2, 1) := by decide +kernel
theorem d_Machine_ofOne_94 : decode b_Machine_ofOne 94 = .ok (.invokestatic 89, 3) := by decide +kernel
theorem d_Machine_ofOne_97 : decode b_Machine_ofOne 97 = .ok (.invokevirtual 143, 3) := by decide +kernel
theorem d_Machine_ofOne_100 : decode b_Machine_ofOne 100 = .ok (.ireturn, 1) := by decide +kernel
theorem d_Machine_ofOne_101 : decode b_Machine_ofOne 101 = .ok (.iload_n 2, 1) := by decide +kernel
theorem d_Machine_ofOne_102 : decode b_Machine_ofOne 102 = .ok (.ifCond .ge 8, 3) := by decide +kernel
theorem d_Machine_ofOne_105 : decode b_Machine_ofOne 105 = .ok (.iload_n 2, 1) := by decide +kernel
theorem d_Machine_ofOne_106 : decode b_Machine_ofOne 106 = .ok (.ineg, 1) := by decide +kernel
theorem d_Machine_ofOne_107 : decode b_Machine_ofOne 107 = .ok (.goto 4, 3) := by decide +kernel
theorem d_Machine_ofOne_110 : decode b_Machine_ofOne 110 = .ok (.iload_n 2, 1) := by decide +kernel
theorem d_Machine_ofOne_111 : decode b_Machine_ofOne 111 = .ok (.ireturn, 1) := by decide +kernel
theorem d_Machine_ofOne_112 : decode b_Machine_ofOne 112 = .ok (.iload_n 2, 1) := by decide +kernel
theorem d_Machine_ofOne_113 : decode b_Machine_ofOne 113 = .ok (.invokestatic 89, 3) := by decide +kernel
theorem d_Machine_ofOne_116 : decode b_Machine_ofOne 116 = .ok (.ldc 146, 2) := by decide +kernel
theorem d_Machine_ofOne_118 : decode b_Machine_ofOne 118 = .ok (.imul, 1) := by decide +kernel
theorem d_Machine_ofOne_119 : decode b_Machine_ofOne 119 = .ok (.ireturn, 1) := by decide +kernel
theorem d_Machine_ofOne_120 : decode b_Machine_ofOne 120 = .ok (.aload_n 0, 1) := by decide +kernel
theorem d_Machine_ofOne_121 : decode b_Machine_ofOne 121 = .ok (.getfield 21, 3) := by decide +kernel
theorem d_Machine_ofOne_124 : decode b_Machine_ofOne 124 = .ok (.iload_n 2, 1) := by decide +kernel
theorem d_Machine_ofOne_125 : decode b_Machine_ofOne 125 = .ok (.invokestatic 89, 3) := by decide +kernel
theorem d_Machine_ofOne_128 : decode b_Machine_ofOne 128 = .ok (.invokevirtual 147, 3) := by decide +kernel
theorem d_Machine_ofOne_131 : decode b_Machine_ofOne 131 = .ok (.invokestatic 139, 3) := by decide +kernel
theorem d_Machine_ofOne_134 : decode b_Machine_ofOne 134 = .ok (.ireturn, 1) := by decide +kernel
theorem d_Machine_ofOne_135 : decode b_Machine_ofOne 135 = .ok (.aload_n 0, 1) := by decide +kernel
theorem d_Machine_ofOne_136 : decode b_Machine_ofOne 136 = .ok (.getfield 21, 3) := by decide +kernel
theorem d_Machine_ofOne_139 : decode b_Machine_ofOne 139 = .ok (.iload_n 2, 1) := by decide +kernel
theorem d_Machine_ofOne_140 : decode b_Machine_ofOne 140 = .ok (.invokestatic 89, 3) := by decide +kernel
theorem d_Machine_ofOne_143 : decode b_Machine_ofOne 143 = .ok (.invokevirtual 151, 3) := by decide +kernel
theorem d_Machine_ofOne_146 : decode b_Machine_ofOne 146 = .ok (.invokestatic 139, 3) := by decide +kernel
theorem d_Machine_ofOne_149 : decode b_Machine_ofOne 149 = .ok (.ireturn, 1) := by decide +kernel
theorem d_Machine_ofOne_150 : decode b_Machine_ofOne 150 = .ok (.aload_n 0, 1) := by decide +kernel
theorem d_Machine_ofOne_151 : decode b_Machine_ofOne 151 = .ok (.iload_n 2, 1) := by decide +kernel
theorem d_Machine_ofOne_152 : decode b_Machine_ofOne 152 = .ok (.invokevirtual 154, 3) := by decide +kernel
theorem d_Machine_ofOne_155 : decode b_Machine_ofOne 155 = .ok (.ireturn, 1) := by decide +kernel
theorem d_Machine_ofOne_156 : decode b_Machine_ofOne 156 = .ok (.iconst 0, 1) := by decide +kernel
theorem d_Machine_ofOne_157 : decode b_Machine_ofOne 157 = .ok (.ireturn, 1) := by decide +kernel
def μ_Machine_ofOne : ax_M := (b_Machine_ofOne, 3, "DotConsole$Machine", (some .int), 2, 43, 0, 0)
theorem Y_Machine_ofOne : ax_YV μ_Machine_ofOne y_Machine_ofOne 2 := ⟨⟨ax_mem (by decide +kernel) rfl, ax_mem (by decide +kernel) rfl, by decide, by decide, by decide +kernel⟩, ax_mem (by decide +kernel) rfl, ax_mem (by decide +kernel) rfl⟩
theorem kf_Machine_21 : Cond.fieldLink "DotConsole$Machine" 21 "DotConsole$Machine" "pad" "LDotConsole$Pad;" ∈ ax_T := ax_mem (by decide +kernel) rfl
theorem km_Machine_147 : Cond.methodLink "DotConsole$Machine" 147 ⟨"DotConsole$Pad", "isDown", "(I)Z"⟩ ∈ ax_T := ax_mem (by decide +kernel) rfl
theorem km_Machine_151 : Cond.methodLink "DotConsole$Machine" 151 ⟨"DotConsole$Pad", "isStruck", "(I)Z"⟩ ∈ ax_T := ax_mem (by decide +kernel) rfl
theorem km_Machine_154 : Cond.methodLink "DotConsole$Machine" 154 ⟨"DotConsole$Machine", "random", "(I)I"⟩ ∈ ax_T := ax_mem (by decide +kernel) rfl
theorem km_Machine_143 : Cond.methodLink "DotConsole$Machine" 143 ⟨"DotConsole$Machine", "readCell", "(I)I"⟩ ∈ ax_T := ax_mem (by decide +kernel) rfl
def J_Machine_ofOne (N : Nat) (a1 : Int32) (a2 : Int32) (σ : St) : Option (Int32 × St) :=
  (if a1 = 13 then (if 0 ≤ a2 then
  some (a2, σ)
  else some ((-a2), σ))
  else (if a1 = 14 then ax_bind (J_Machine_floor N a2 σ) (fun r1 σ1 =>
  some ((r1 * 65536), σ1))
  else (if a1 = 15 then ax_bind (J_Machine_floor N a2 σ) (fun r2 σ2 =>
  ax_bind (J_Pad_isDown N r2 σ2) (fun r3 σ3 =>
  ax_bind (J_Machine_test N r3 σ3) (fun r4 σ4 =>
  some (r4, σ4))))
  else (if a1 = 16 then ax_bind (J_Machine_floor N a2 σ) (fun r5 σ5 =>
  ax_bind (J_Pad_isStruck N r5 σ5) (fun r6 σ6 =>
  ax_bind (J_Machine_test N r6 σ6) (fun r7 σ7 =>
  some (r7, σ7))))
  else (if a1 = 20 then ax_bind (J_Machine_random N a2 σ) (fun r8 σ8 =>
  some (r8, σ8))
  else (if a1 = 21 then some ((-a2), σ)
  else (if a1 = 33 then (if a2 = 0 then
  ax_bind (J_Machine_test N 1 σ) (fun r10 σ10 =>
  some (r10, σ10))
  else ax_bind (J_Machine_test N 0 σ) (fun r9 σ9 =>
  some (r9, σ9)))
  else (if a1 = 64 then ax_bind (J_Machine_floor N a2 σ) (fun r11 σ11 =>
  ax_bind (J_Machine_readCell N r11 σ11) (fun r12 σ12 =>
  some (r12, σ12)))
  else some (0, σ)))))))))
set_option maxHeartbeats 1000000 in
theorem c_Machine_ofOne {N : Nat} {g : ax_G} {a1 : Int32} {a2 : Int32} {σ : St} {r9 : Int32} {s9 : St} (hJ : J_Machine_ofOne N a1 a2 σ = some (r9, s9)) : ax_CI μ_Machine_ofOne g y_Machine_ofOne (wC g) [.ref (g.2.1 24), .int a1, .int a2] σ (ax_eqI r9 s9) := by
  refine ax_CI.of (plainFor_of_name rfl) rfl (Nat.le_of_ble_eq_true rfl) (fun x A _ => ?_)
  show AW x μ_Machine_ofOne g A (wC g) (0, 0) (ax_QI x μ_Machine_ofOne g A (wC g) (ax_eqI r9 s9)) 0 [(0, .ref (g.2.1 24)), (1, .int a1), (2, .int a2)] [] σ
  rw [J_Machine_ofOne] at hJ
  refine aw_iload_n (n := 1) d_Machine_ofOne_0 rfl rfl 1 rfl ?_
  rcases ax_ifE hJ with ⟨c1, hJ⟩ | ⟨c1, hJ⟩
  · refine aw_lookup (t := 101) (off := 100) d_Machine_ofOne_1 (by decide) (by first | (rw [c1]; done) | (rw [c1]; decide)) (by decide) ?_
    refine aw_iload_n (n := 102) d_Machine_ofOne_101 rfl rfl 2 rfl ?_
    refine aw_if_ge (n := 105) (t := 110) d_Machine_ofOne_102 rfl (by decide) (fun c2 => ?_) (fun c2 => ?_)
    · rw [if_pos c2] at hJ
      refine aw_iload_n (n := 111) d_Machine_ofOne_110 rfl rfl 2 rfl ?_
      exact aw_iret d_Machine_ofOne_111 rfl (ax_ret hJ)
    · rw [if_neg c2] at hJ
      refine aw_iload_n (n := 106) d_Machine_ofOne_105 rfl rfl 2 rfl ?_
      refine aw_ineg (n := 107) d_Machine_ofOne_106 rfl ?_
      refine aw_goto (t := 111) d_Machine_ofOne_107 (by decide) ?_
      exact aw_iret d_Machine_ofOne_111 rfl (ax_ret hJ)
  rcases ax_ifE hJ with ⟨c3, hJ⟩ | ⟨c3, hJ⟩
  · refine aw_lookup (t := 112) (off := 111) d_Machine_ofOne_1 (by decide) (by first | (rw [c3]; done) | (rw [c3]; decide)) (by decide) ?_
    refine aw_iload_n (n := 113) d_Machine_ofOne_112 rfl rfl 2 rfl ?_
    obtain ⟨r1, σ1, hc1, hJ⟩ := ax_bindE hJ
    refine aw_callSi (n := 116) (c_Machine_floor hc1) Y_Machine_floor km_Machine_89 (by decide) (by decide) rfl rfl (Nat.le_of_ble_eq_true rfl) d_Machine_ofOne_113 rfl (fun r9 s9 hp => ?_)
    obtain ⟨rfl, rfl⟩ := hp
    refine aw_ldc (n := 118) (v := 65536) d_Machine_ofOne_116 rfl kc_Machine_146 ?_
    refine aw_imul (n := 119) d_Machine_ofOne_118 rfl ?_
    exact aw_iret d_Machine_ofOne_119 rfl (ax_ret hJ)
  rcases ax_ifE hJ with ⟨c4, hJ⟩ | ⟨c4, hJ⟩
  · refine aw_lookup (t := 120) (off := 119) d_Machine_ofOne_1 (by decide) (by first | (rw [c4]; done) | (rw [c4]; decide)) (by decide) ?_
    refine aw_aload_n (n := 121) d_Machine_ofOne_120 rfl rfl 0 rfl ?_
    refine gf_Machine_pad (n := 124) d_Machine_ofOne_121 rfl kf_Machine_21 ?_
    refine aw_iload_n (n := 125) d_Machine_ofOne_124 rfl rfl 2 rfl ?_
    obtain ⟨r2, σ2, hc2, hJ⟩ := ax_bindE hJ
    refine aw_callSi (n := 128) (c_Machine_floor hc2) Y_Machine_floor km_Machine_89 (by decide) (by decide) rfl rfl (Nat.le_of_ble_eq_true rfl) d_Machine_ofOne_125 rfl (fun r9 s9 hp => ?_)
    obtain ⟨rfl, rfl⟩ := hp
    obtain ⟨r3, σ3, hc3, hJ⟩ := ax_bindE hJ
    refine aw_callVi (n := 131) (c_Pad_isDown hc3) 30 rfl rfl Y_Pad_isDown km_Machine_147 (by decide) (by decide) rfl rfl (Nat.le_of_ble_eq_true rfl) d_Machine_ofOne_128 rfl (fun r9 s9 hp => ?_)
    obtain ⟨rfl, rfl, hb1⟩ := hp
    obtain ⟨r4, σ4, hc4, hJ⟩ := ax_bindE hJ
    refine aw_callSi (n := 134) (c_Machine_test hc4) Y_Machine_test km_Machine_139 (by decide) (by decide) rfl rfl (Nat.le_of_ble_eq_true rfl) d_Machine_ofOne_131 rfl (fun r9 s9 hp => ?_)
    obtain ⟨rfl, rfl⟩ := hp
    exact aw_iret d_Machine_ofOne_134 rfl (ax_ret hJ)
  rcases ax_ifE hJ with ⟨c5, hJ⟩ | ⟨c5, hJ⟩
  · refine aw_lookup (t := 135) (off := 134) d_Machine_ofOne_1 (by decide) (by first | (rw [c5]; done) | (rw [c5]; decide)) (by decide) ?_
    refine aw_aload_n (n := 136) d_Machine_ofOne_135 rfl rfl 0 rfl ?_
    refine gf_Machine_pad (n := 139) d_Machine_ofOne_136 rfl kf_Machine_21 ?_
    refine aw_iload_n (n := 140) d_Machine_ofOne_139 rfl rfl 2 rfl ?_
    obtain ⟨r5, σ5, hc5, hJ⟩ := ax_bindE hJ
    refine aw_callSi (n := 143) (c_Machine_floor hc5) Y_Machine_floor km_Machine_89 (by decide) (by decide) rfl rfl (Nat.le_of_ble_eq_true rfl) d_Machine_ofOne_140 rfl (fun r9 s9 hp => ?_)
    obtain ⟨rfl, rfl⟩ := hp
    obtain ⟨r6, σ6, hc6, hJ⟩ := ax_bindE hJ
    refine aw_callVi (n := 146) (c_Pad_isStruck hc6) 30 rfl rfl Y_Pad_isStruck km_Machine_151 (by decide) (by decide) rfl rfl (Nat.le_of_ble_eq_true rfl) d_Machine_ofOne_143 rfl (fun r9 s9 hp => ?_)
    obtain ⟨rfl, rfl, hb2⟩ := hp
    obtain ⟨r7, σ7, hc7, hJ⟩ := ax_bindE hJ
    refine aw_callSi (n := 149) (c_Machine_test hc7) Y_Machine_test km_Machine_139 (by decide) (by decide) rfl rfl (Nat.le_of_ble_eq_true rfl) d_Machine_ofOne_146 rfl (fun r9 s9 hp => ?_)
    obtain ⟨rfl, rfl⟩ := hp
    exact aw_iret d_Machine_ofOne_149 rfl (ax_ret hJ)
  rcases ax_ifE hJ with ⟨c6, hJ⟩ | ⟨c6, hJ⟩
  · refine aw_lookup (t := 150) (off := 149) d_Machine_ofOne_1 (by decide) (by first | (rw [c6]; done) | (rw [c6]; decide)) (by decide) ?_
    refine aw_aload_n (n := 151) d_Machine_ofOne_150 rfl rfl 0 rfl ?_
    refine aw_iload_n (n := 152) d_Machine_ofOne_151 rfl rfl 2 rfl ?_
    obtain ⟨r8, σ8, hc8, hJ⟩ := ax_bindE hJ
    refine aw_callVi (n := 155) (c_Machine_random hc8) 24 rfl rfl Y_Machine_random km_Machine_154 (by decide) (by decide) rfl rfl (Nat.le_of_ble_eq_true rfl) d_Machine_ofOne_152 rfl (fun r9 s9 hp => ?_)
    obtain ⟨rfl, rfl⟩ := hp
    exact aw_iret d_Machine_ofOne_155 rfl (ax_ret hJ)
  rcases ax_ifE hJ with ⟨c7, hJ⟩ | ⟨c7, hJ⟩
  · refine aw_lookup (t := 76) (off := 75) d_Machine_ofOne_1 (by decide) (by first | (rw [c7]; done) | (rw [c7]; decide)) (by decide) ?_
    refine aw_iload_n (n := 77) d_Machine_ofOne_76 rfl rfl 2 rfl ?_
    refine aw_ineg (n := 78) d_Machine_ofOne_77 rfl ?_
    exact aw_iret d_Machine_ofOne_78 rfl (ax_ret hJ)
  rcases ax_ifE hJ with ⟨c8, hJ⟩ | ⟨c8, hJ⟩
  · refine aw_lookup (t := 79) (off := 78) d_Machine_ofOne_1 (by decide) (by first | (rw [c8]; done) | (rw [c8]; decide)) (by decide) ?_
    refine aw_iload_n (n := 80) d_Machine_ofOne_79 rfl rfl 2 rfl ?_
    refine aw_if_ne (n := 83) (t := 87) d_Machine_ofOne_80 rfl (by decide) (fun c9 => ?_) (fun c9 => ?_)
    · rw [if_neg c9] at hJ
      refine aw_iconst (n := 88) (v := 0) d_Machine_ofOne_87 rfl (by decide) ?_
      obtain ⟨r9, σ9, hc9, hJ⟩ := ax_bindE hJ
      refine aw_callSi (n := 91) (c_Machine_test hc9) Y_Machine_test km_Machine_139 (by decide) (by decide) rfl rfl (Nat.le_of_ble_eq_true rfl) d_Machine_ofOne_88 rfl (fun r9 s9 hp => ?_)
      obtain ⟨rfl, rfl⟩ := hp
      exact aw_iret d_Machine_ofOne_91 rfl (ax_ret hJ)
    · rw [if_pos c9] at hJ
      refine aw_iconst (n := 84) (v := 1) d_Machine_ofOne_83 rfl (by decide) ?_
      refine aw_goto (t := 88) d_Machine_ofOne_84 (by decide) ?_
      obtain ⟨r10, σ10, hc10, hJ⟩ := ax_bindE hJ
      refine aw_callSi (n := 91) (c_Machine_test hc10) Y_Machine_test km_Machine_139 (by decide) (by decide) rfl rfl (Nat.le_of_ble_eq_true rfl) d_Machine_ofOne_88 rfl (fun r9 s9 hp => ?_)
      obtain ⟨rfl, rfl⟩ := hp
      exact aw_iret d_Machine_ofOne_91 rfl (ax_ret hJ)
  rcases ax_ifE hJ with ⟨c10, hJ⟩ | ⟨c10, hJ⟩
  · refine aw_lookup (t := 92) (off := 91) d_Machine_ofOne_1 (by decide) (by first | (rw [c10]; done) | (rw [c10]; decide)) (by decide) ?_
    refine aw_aload_n (n := 93) d_Machine_ofOne_92 rfl rfl 0 rfl ?_
    refine aw_iload_n (n := 94) d_Machine_ofOne_93 rfl rfl 2 rfl ?_
    obtain ⟨r11, σ11, hc11, hJ⟩ := ax_bindE hJ
    refine aw_callSi (n := 97) (c_Machine_floor hc11) Y_Machine_floor km_Machine_89 (by decide) (by decide) rfl rfl (Nat.le_of_ble_eq_true rfl) d_Machine_ofOne_94 rfl (fun r9 s9 hp => ?_)
    obtain ⟨rfl, rfl⟩ := hp
    obtain ⟨r12, σ12, hc12, hJ⟩ := ax_bindE hJ
    refine aw_callVi (n := 100) (c_Machine_readCell hc12) 24 rfl rfl Y_Machine_readCell km_Machine_143 (by decide) (by decide) rfl rfl (Nat.le_of_ble_eq_true rfl) d_Machine_ofOne_97 rfl (fun r9 s9 hp => ?_)
    obtain ⟨rfl, rfl⟩ := hp
    exact aw_iret d_Machine_ofOne_100 rfl (ax_ret hJ)
  refine aw_lookup (t := 156) (off := 155) d_Machine_ofOne_1 (by decide) (show Op.lookupswitch.offset [(13, 100), (14, 111), (15, 119), (16, 134), (20, 149), (21, 75), (33, 78), (64, 91)] 155 _ = 155 by rw [lv_osw (a := 13) c1 (by decide), lv_osw (a := 14) c3 (by decide), lv_osw (a := 15) c4 (by decide), lv_osw (a := 16) c5 (by decide), lv_osw (a := 20) c6 (by decide), lv_osw (a := 21) c7 (by decide), lv_osw (a := 33) c8 (by decide), lv_osw (a := 64) c10 (by decide)]; rfl) (by decide) ?_
  refine aw_iconst (n := 157) (v := 0) d_Machine_ofOne_156 rfl (by decide) ?_
  exact aw_iret d_Machine_ofOne_157 rfl (ax_ret hJ)
abbrev b_Machine_workOutNode : ByteArray := prog_3_method_9_code
def y_Machine_workOutNode : MethodName := ⟨"DotConsole$Machine", "workOutNode", "(II)V"⟩
theorem d_Machine_workOutNode_0 : decode b_Machine_workOutNode 0 = .ok (.iload_n 1, 1) := by decide +kernel
theorem d_Machine_workOutNode_1 : decode b_Machine_workOutNode 1 = .ok (.invokestatic 128, 3) := by decide +kernel
theorem d_Machine_workOutNode_4 : decode b_Machine_workOutNode 4 = .ok (.istore_n 3, 1) := by decide +kernel
theorem d_Machine_workOutNode_5 : decode b_Machine_workOutNode 5 = .ok (.aload_n 0, 1) := by decide +kernel
theorem d_Machine_workOutNode_6 : decode b_Machine_workOutNode 6 = .ok (.dup, 1) := by decide +kernel
theorem d_Machine_workOutNode_7 : decode b_Machine_workOutNode 7 = .ok (.getfield 113, 3) := by decide +kernel
theorem d_Machine_workOutNode_10 : decode b_Machine_workOutNode 10 = .ok (.iload_n 3, 1) := by decide +kernel
theorem d_Machine_workOutNode_11 : decode b_Machine_workOutNode 11 = .ok (.isub, 1) := by decide +kernel
theorem d_Machine_workOutNode_12 : decode b_Machine_workOutNode 12 = .ok (.putfield 113, 3) := by decide +kernel
theorem d_Machine_workOutNode_15 : decode b_Machine_workOutNode 15 = .ok (.iload_n 3, 1) := by decide +kernel
theorem d_Machine_workOutNode_16 : decode b_Machine_workOutNode 16 = .ok (.ifCond .ne 30, 3) := by decide +kernel
theorem d_Machine_workOutNode_19 : decode b_Machine_workOutNode 19 = .ok (.aload_n 0, 1) := by decide +kernel
theorem d_Machine_workOutNode_20 : decode b_Machine_workOutNode 20 = .ok (.getfield 36, 3) := by decide +kernel
theorem d_Machine_workOutNode_23 : decode b_Machine_workOutNode 23 = .ok (.aload_n 0, 1) := by decide +kernel
theorem d_Machine_workOutNode_24 : decode b_Machine_workOutNode 24 = .ok (.getfield 113, 3) := by decide +kernel
theorem d_Machine_workOutNode_27 : decode b_Machine_workOutNode 27 = .ok (.iload_n 1, 1) := by decide +kernel
theorem d_Machine_workOutNode_28 : decode b_Machine_workOutNode 28 = .ok (.iconst 3, 1) := by decide +kernel
theorem d_Machine_workOutNode_29 : decode b_Machine_workOutNode 29 = .ok (.if_icmp .ne 12, 3) := by decide +kernel
theorem d_Machine_workOutNode_32 : decode b_Machine_workOutNode 32 = .ok (.aload_n 0, 1) := by decide +kernel
theorem d_Machine_workOutNode_33 : decode b_Machine_workOutNode 33 = .ok (.getfield 25, 3) := by decide +kernel
theorem d_Machine_workOutNode_36 : decode b_Machine_workOutNode 36 = .ok (.iload_n 2, 1) := by decide +kernel
theorem d_Machine_workOutNode_37 : decode b_Machine_workOutNode 37 = .ok (.iaload, 1) := by decide +kernel
theorem d_Machine_workOutNode_38 : decode b_Machine_workOutNode 38 = .ok (.goto 4, 3) := by decide +kernel
theorem d_Machine_workOutNode_41 : decode b_Machine_workOutNode 41 = .ok (.iload_n 2, 1) := by decide +kernel
theorem d_Machine_workOutNode_42 : decode b_Machine_workOutNode 42 = .ok (.iastore, 1) := by decide +kernel
theorem d_Machine_workOutNode_43 : decode b_Machine_workOutNode 43 = .ok (.goto 68, 3) := by decide +kernel
theorem d_Machine_workOutNode_46 : decode b_Machine_workOutNode 46 = .ok (.iload_n 3, 1) := by decide +kernel
theorem d_Machine_workOutNode_47 : decode b_Machine_workOutNode 47 = .ok (.iconst 1, 1) := by decide +kernel
theorem d_Machine_workOutNode_48 : decode b_Machine_workOutNode 48 = .ok (.if_icmp .ne 29, 3) := by decide +kernel
theorem d_Machine_workOutNode_51 : decode b_Machine_workOutNode 51 = .ok (.aload_n 0, 1) := by decide +kernel
theorem d_Machine_workOutNode_52 : decode b_Machine_workOutNode 52 = .ok (.getfield 36, 3) := by decide +kernel
theorem d_Machine_workOutNode_55 : decode b_Machine_workOutNode 55 = .ok (.aload_n 0, 1) := by decide +kernel
theorem d_Machine_workOutNode_56 : decode b_Machine_workOutNode 56 = .ok (.getfield 113, 3) := by decide +kernel
theorem d_Machine_workOutNode_59 : decode b_Machine_workOutNode 59 = .ok (.aload_n 0, 1) := by decide +kernel
theorem d_Machine_workOutNode_60 : decode b_Machine_workOutNode 60 = .ok (.iload_n 1, 1) := by decide +kernel
theorem d_Machine_workOutNode_61 : decode b_Machine_workOutNode 61 = .ok (.aload_n 0, 1) := by decide +kernel
theorem d_Machine_workOutNode_62 : decode b_Machine_workOutNode 62 = .ok (.getfield 36, 3) := by decide +kernel
theorem d_Machine_workOutNode_65 : decode b_Machine_workOutNode 65 = .ok (.aload_n 0, 1) := by decide +kernel
theorem d_Machine_workOutNode_66 : decode b_Machine_workOutNode 66 = .ok (.getfield 113, 3) := by decide +kernel
theorem d_Machine_workOutNode_69 : decode b_Machine_workOutNode 69 = .ok (.iaload, 1) := by decide +kernel
theorem d_Machine_workOutNode_70 : decode b_Machine_workOutNode 70 = .ok (.invokevirtual 131, 3) := by decide +kernel
theorem d_Machine_workOutNode_73 : decode b_Machine_workOutNode 73 = .ok (.iastore, 1) := by decide +kernel
theorem d_Machine_workOutNode_74 : decode b_Machine_workOutNode 74 = .ok (.goto 37, 3) := by decide +kernel
theorem d_Machine_workOutNode_77 : decode b_Machine_workOutNode 77 = .ok (.aload_n 0, 1) := by decide +kernel
theorem d_Machine_workOutNode_78 : decode b_Machine_workOutNode 78 = .ok (.getfield 36, 3) := by decide +kernel
theorem d_Machine_workOutNode_81 : decode b_Machine_workOutNode 81 = .ok (.aload_n 0, 1) := by decide +kernel
theorem d_Machine_workOutNode_82 : decode b_Machine_workOutNode 82 = .ok (.getfield 113, 3) := by decide +kernel
theorem d_Machine_workOutNode_85 : decode b_Machine_workOutNode 85 = .ok (.aload_n 0, 1) := by decide +kernel
theorem d_Machine_workOutNode_86 : decode b_Machine_workOutNode 86 = .ok (.iload_n 1, 1) := by decide +kernel
theorem d_Machine_workOutNode_87 : decode b_Machine_workOutNode 87 = .ok (.aload_n 0, 1) := by decide +kernel
theorem d_Machine_workOutNode_88 : decode b_Machine_workOutNode 88 = .ok (.getfield 36, 3) := by decide +kernel
theorem d_Machine_workOutNode_91 : decode b_Machine_workOutNode 91 = .ok (.aload_n 0, 1) := by decide +kernel
theorem d_Machine_workOutNode_92 : decode b_Machine_workOutNode 92 = .ok (.getfield 113, 3) := by decide +kernel
theorem d_Machine_workOutNode_95 : decode b_Machine_workOutNode 95 = .ok (.iaload, 1) := by decide +kernel
theorem d_Machine_workOutNode_96 : decode b_Machine_workOutNode 96 = .ok (.aload_n 0, 1) := by decide +kernel
theorem d_Machine_workOutNode_97 : decode b_Machine_workOutNode 97 = .ok (.getfield 36, 3) := by decide +kernel
theorem d_Machine_workOutNode_100 : decode b_Machine_workOutNode 100 = .ok (.aload_n 0, 1) := by decide +kernel
theorem d_Machine_workOutNode_101 : decode b_Machine_workOutNode 101 = .ok (.getfield 113, 3) := by decide +kernel
theorem d_Machine_workOutNode_104 : decode b_Machine_workOutNode 104 = .ok (.iconst 1, 1) := by decide +kernel
theorem d_Machine_workOutNode_105 : decode b_Machine_workOutNode 105 = .ok (.iadd, 1) := by decide +kernel
theorem d_Machine_workOutNode_106 : decode b_Machine_workOutNode 106 = .ok (.iaload, 1) := by decide +kernel
theorem d_Machine_workOutNode_107 : decode b_Machine_workOutNode 107 = .ok (.invokevirtual 135, 3) := by decide +kernel
theorem d_Machine_workOutNode_110 : decode b_Machine_workOutNode 110 = .ok (.iastore, 1) := by decide +kernel
theorem d_Machine_workOutNode_111 : decode b_Machine_workOutNode 111 = .ok (.aload_n 0, 1) := by decide +kernel
theorem d_Machine_workOutNode_112 : decode b_Machine_workOutNode 112 = .ok (.dup, 1) := by decide +kernel
theorem d_Machine_workOutNode_113 : decode b_Machine_workOutNode 113 = .ok (.getfield 113, 3) := by decide +kernel
theorem d_Machine_workOutNode_116 : decode b_Machine_workOutNode 116 = .ok (.iconst 1, 1) := by decide +kernel
theorem d_Machine_workOutNode_117 : decode b_Machine_workOutNode 117 = .ok (.iadd, 1) := by decide +kernel
theorem d_Machine_workOutNode_118 : decode b_Machine_workOutNode 118 = .ok (.putfield 113, 3) := by decide +kernel
theorem d_Machine_workOutNode_121 : decode b_Machine_workOutNode 121 = .ok (.return_, 1) := by decide +kernel
def μ_Machine_workOutNode : ax_M := (b_Machine_workOutNode, 4, "DotConsole$Machine", none, 3, 66, 0, 0)
theorem Y_Machine_workOutNode : ax_YV μ_Machine_workOutNode y_Machine_workOutNode 2 := ⟨⟨ax_mem (by decide +kernel) rfl, ax_mem (by decide +kernel) rfl, by decide, by decide, by decide +kernel⟩, ax_mem (by decide +kernel) rfl, ax_mem (by decide +kernel) rfl⟩
theorem kf_Machine_113 : Cond.fieldLink "DotConsole$Machine" 113 "DotConsole$Machine" "stackCount" "I" ∈ ax_T := ax_mem (by decide +kernel) rfl
theorem km_Machine_128 : Cond.methodLinkNest "DotConsole$Machine" 128 ⟨"DotConsole", "partsOf", "(I)I"⟩ "DotConsole" ∈ ax_N := by decide +kernel
theorem kf_Machine_36 : Cond.fieldLink "DotConsole$Machine" 36 "DotConsole$Machine" "stack" "[I" ∈ ax_T := ax_mem (by decide +kernel) rfl
theorem km_Machine_135 : Cond.methodLink "DotConsole$Machine" 135 ⟨"DotConsole$Machine", "ofTwo", "(III)I"⟩ ∈ ax_T := ax_mem (by decide +kernel) rfl
theorem km_Machine_131 : Cond.methodLink "DotConsole$Machine" 131 ⟨"DotConsole$Machine", "ofOne", "(II)I"⟩ ∈ ax_T := ax_mem (by decide +kernel) rfl
theorem kf_Machine_25 : Cond.fieldLink "DotConsole$Machine" 25 "DotConsole$Machine" "values" "[I" ∈ ax_T := ax_mem (by decide +kernel) rfl
def J_Machine_workOutNode_111 (N : Nat) (σ : St) : Option St :=
  ax_let (sF σ 22 ((σ.1 22) + 1)) (fun σ7 =>
  some σ7)
def J_Machine_workOutNode_42 (N : Nat) (t0 : Int32) (t1 : Int32) (σ : St) : Option St :=
  (if (inB t1 16) = true then ax_let (sA σ 21 t1.toNatClampNeg t0) (fun σ8 =>
  J_Machine_workOutNode_111 N σ8) else none)
def J_Machine_workOutNode (N : Nat) (a1 : Int32) (a2 : Int32) (σ : St) : Option St :=
  ax_bind (J_Con_partsOf N a1 σ) (fun r1 σ1 =>
  ax_let (sF σ1 22 ((σ1.1 22) - r1)) (fun σ2 =>
  (if r1 = 0 then
  (if a1 = 3 then
  (if (inB a2 12) = true then J_Machine_workOutNode_42 N (σ2.2 19 a2.toNatClampNeg) (σ2.1 22) σ2 else none)
  else J_Machine_workOutNode_42 N a2 (σ2.1 22) σ2)
  else (if r1 = 1 then
  (if (inB (σ2.1 22) 16) = true then ax_bind (J_Machine_ofOne N a1 (σ2.2 21 (σ2.1 22).toNatClampNeg) σ2) (fun r3 σ5 =>
  (if (inB (σ2.1 22) 16) = true then ax_let (sA σ5 21 (σ2.1 22).toNatClampNeg r3) (fun σ6 =>
  J_Machine_workOutNode_111 N σ6) else none)) else none)
  else (if (inB (σ2.1 22) 16) = true then (if (inB ((σ2.1 22) + 1) 16) = true then ax_bind (J_Machine_ofTwo N a1 (σ2.2 21 (σ2.1 22).toNatClampNeg) (σ2.2 21 ((σ2.1 22) + 1).toNatClampNeg) σ2) (fun r2 σ3 =>
  (if (inB (σ2.1 22) 16) = true then ax_let (sA σ3 21 (σ2.1 22).toNatClampNeg r2) (fun σ4 =>
  J_Machine_workOutNode_111 N σ4) else none)) else none) else none)))))
set_option maxHeartbeats 1000000 in
theorem t_Machine_workOutNode_111 {N : Nat} {g : ax_G} {s9 : St} (x : ax_X) (A : Nat → Prop) : ∀ (σ : St), J_Machine_workOutNode_111 N σ = some s9 → AW x μ_Machine_workOutNode g A (wC g) (0, 0) (ax_QV x μ_Machine_workOutNode g A (wC g) (ax_eqV s9)) 111 [(0, .ref (g.2.1 24))] [] σ := by
  intro σ hJ
  rw [J_Machine_workOutNode_111] at hJ
  refine aw_aload_n (n := 112) d_Machine_workOutNode_111 rfl rfl 0 rfl ?_
  refine aw_dup (n := 113) d_Machine_workOutNode_112 rfl rfl ?_
  refine gf_Machine_stackCount (n := 116) d_Machine_workOutNode_113 rfl kf_Machine_113 ?_
  refine aw_iconst (n := 117) (v := 1) d_Machine_workOutNode_116 rfl (by decide) ?_
  refine aw_iadd (n := 118) d_Machine_workOutNode_117 rfl ?_
  refine pf_Machine_stackCount (n := 121) d_Machine_workOutNode_118 rfl kf_Machine_113 ?_
  obtain ⟨σ7, eσ7, hJ⟩ := ax_letE hJ
  refine aw_let eσ7 ?_
  exact aw_vret d_Machine_workOutNode_121 rfl (ax_retV hJ)
set_option maxHeartbeats 1000000 in
theorem t_Machine_workOutNode_42 {N : Nat} {g : ax_G} {s9 : St} (x : ax_X) (A : Nat → Prop) : ∀ (t0 : Int32) (t1 : Int32) (σ : St), J_Machine_workOutNode_42 N t0 t1 σ = some s9 → AW x μ_Machine_workOutNode g A (wC g) (0, 0) (ax_QV x μ_Machine_workOutNode g A (wC g) (ax_eqV s9)) 42 [(0, .ref (g.2.1 24))] [.int t0, .int t1, .ref (g.2.1 27)] σ := by
  intro t0 t1 σ hJ
  rw [J_Machine_workOutNode_42] at hJ
  obtain ⟨h7, hJ⟩ := ax_need hJ
  refine as_27 (n := 43) d_Machine_workOutNode_42 rfl h7 ?_
  obtain ⟨σ8, eσ8, hJ⟩ := ax_letE hJ
  refine aw_let eσ8 ?_
  refine aw_goto (t := 111) d_Machine_workOutNode_43 (by decide) ?_
  exact t_Machine_workOutNode_111 x A _ hJ
set_option maxHeartbeats 1000000 in
theorem c_Machine_workOutNode {N : Nat} {g : ax_G} {a1 : Int32} {a2 : Int32} {σ : St} {s9 : St} (hJ : J_Machine_workOutNode N a1 a2 σ = some s9) : ax_CV μ_Machine_workOutNode g y_Machine_workOutNode (wC g) [.ref (g.2.1 24), .int a1, .int a2] σ (ax_eqV s9) := by
  refine ax_CV.of (plainFor_of_name rfl) rfl (Nat.le_of_ble_eq_true rfl) (fun x A _ => ?_)
  show AW x μ_Machine_workOutNode g A (wC g) (0, 0) (ax_QV x μ_Machine_workOutNode g A (wC g) (ax_eqV s9)) 0 [(0, .ref (g.2.1 24)), (1, .int a1), (2, .int a2)] [] σ
  rw [J_Machine_workOutNode] at hJ
  refine aw_iload_n (n := 1) d_Machine_workOutNode_0 rfl rfl 1 rfl ?_
  obtain ⟨r1, σ1, hc1, hJ⟩ := ax_bindE hJ
  refine aw_callSNi (n := 4) (c_Con_partsOf hc1) Y_Con_partsOf km_Machine_128 (by decide) (by decide) rfl rfl (Nat.le_of_ble_eq_true rfl) d_Machine_workOutNode_1 rfl (fun r9 s9 hp => ?_)
  obtain ⟨rfl, rfl⟩ := hp
  refine aw_istore_n (n := 5) d_Machine_workOutNode_4 rfl rfl (by decide) rfl ?_
  refine aw_aload_n (n := 6) d_Machine_workOutNode_5 rfl rfl 1 rfl ?_
  refine aw_dup (n := 7) d_Machine_workOutNode_6 rfl rfl ?_
  refine gf_Machine_stackCount (n := 10) d_Machine_workOutNode_7 rfl kf_Machine_113 ?_
  refine aw_iload_n (n := 11) d_Machine_workOutNode_10 rfl rfl 0 rfl ?_
  refine aw_isub (n := 12) d_Machine_workOutNode_11 rfl ?_
  refine pf_Machine_stackCount (n := 15) d_Machine_workOutNode_12 rfl kf_Machine_113 ?_
  obtain ⟨σ2, eσ2, hJ⟩ := ax_letE hJ
  refine aw_let eσ2 ?_
  refine aw_iload_n (n := 16) d_Machine_workOutNode_15 rfl rfl 0 rfl ?_
  refine aw_if_ne (n := 19) (t := 46) d_Machine_workOutNode_16 rfl (by decide) (fun c1 => ?_) (fun c1 => ?_)
  · rw [if_neg c1] at hJ
    refine aw_iload_n (n := 47) d_Machine_workOutNode_46 rfl rfl 0 rfl ?_
    refine aw_iconst (n := 48) (v := 1) d_Machine_workOutNode_47 rfl (by decide) ?_
    refine aw_icmp_ne (n := 51) (t := 77) d_Machine_workOutNode_48 rfl (by decide) (fun c2 => ?_) (fun c2 => ?_)
    · rw [if_neg c2] at hJ
      refine aw_aload_n (n := 78) d_Machine_workOutNode_77 rfl rfl 1 rfl ?_
      refine gf_Machine_stack (n := 81) d_Machine_workOutNode_78 rfl kf_Machine_36 ?_
      refine aw_aload_n (n := 82) d_Machine_workOutNode_81 rfl rfl 1 rfl ?_
      refine gf_Machine_stackCount (n := 85) d_Machine_workOutNode_82 rfl kf_Machine_113 ?_
      refine aw_aload_n (n := 86) d_Machine_workOutNode_85 rfl rfl 1 rfl ?_
      refine aw_iload_n (n := 87) d_Machine_workOutNode_86 rfl rfl 2 rfl ?_
      refine aw_aload_n (n := 88) d_Machine_workOutNode_87 rfl rfl 1 rfl ?_
      refine gf_Machine_stack (n := 91) d_Machine_workOutNode_88 rfl kf_Machine_36 ?_
      refine aw_aload_n (n := 92) d_Machine_workOutNode_91 rfl rfl 1 rfl ?_
      refine gf_Machine_stackCount (n := 95) d_Machine_workOutNode_92 rfl kf_Machine_113 ?_
      obtain ⟨h1, hJ⟩ := ax_need hJ
      refine al_27 (n := 96) d_Machine_workOutNode_95 rfl h1 ?_
      refine aw_aload_n (n := 97) d_Machine_workOutNode_96 rfl rfl 1 rfl ?_
      refine gf_Machine_stack (n := 100) d_Machine_workOutNode_97 rfl kf_Machine_36 ?_
      refine aw_aload_n (n := 101) d_Machine_workOutNode_100 rfl rfl 1 rfl ?_
      refine gf_Machine_stackCount (n := 104) d_Machine_workOutNode_101 rfl kf_Machine_113 ?_
      refine aw_iconst (n := 105) (v := 1) d_Machine_workOutNode_104 rfl (by decide) ?_
      refine aw_iadd (n := 106) d_Machine_workOutNode_105 rfl ?_
      obtain ⟨h2, hJ⟩ := ax_need hJ
      refine al_27 (n := 107) d_Machine_workOutNode_106 rfl h2 ?_
      obtain ⟨r2, σ3, hc2, hJ⟩ := ax_bindE hJ
      refine aw_callVi (n := 110) (c_Machine_ofTwo hc2) 24 rfl rfl Y_Machine_ofTwo km_Machine_135 (by decide) (by decide) rfl rfl (Nat.le_of_ble_eq_true rfl) d_Machine_workOutNode_107 rfl (fun r9 s9 hp => ?_)
      obtain ⟨rfl, rfl⟩ := hp
      obtain ⟨h3, hJ⟩ := ax_need hJ
      refine as_27 (n := 111) d_Machine_workOutNode_110 rfl h3 ?_
      obtain ⟨σ4, eσ4, hJ⟩ := ax_letE hJ
      refine aw_let eσ4 ?_
      refine aw_sub [1] rfl ?_
      exact t_Machine_workOutNode_111 x A _ hJ
    · rw [if_pos c2] at hJ
      refine aw_aload_n (n := 52) d_Machine_workOutNode_51 rfl rfl 1 rfl ?_
      refine gf_Machine_stack (n := 55) d_Machine_workOutNode_52 rfl kf_Machine_36 ?_
      refine aw_aload_n (n := 56) d_Machine_workOutNode_55 rfl rfl 1 rfl ?_
      refine gf_Machine_stackCount (n := 59) d_Machine_workOutNode_56 rfl kf_Machine_113 ?_
      refine aw_aload_n (n := 60) d_Machine_workOutNode_59 rfl rfl 1 rfl ?_
      refine aw_iload_n (n := 61) d_Machine_workOutNode_60 rfl rfl 2 rfl ?_
      refine aw_aload_n (n := 62) d_Machine_workOutNode_61 rfl rfl 1 rfl ?_
      refine gf_Machine_stack (n := 65) d_Machine_workOutNode_62 rfl kf_Machine_36 ?_
      refine aw_aload_n (n := 66) d_Machine_workOutNode_65 rfl rfl 1 rfl ?_
      refine gf_Machine_stackCount (n := 69) d_Machine_workOutNode_66 rfl kf_Machine_113 ?_
      obtain ⟨h4, hJ⟩ := ax_need hJ
      refine al_27 (n := 70) d_Machine_workOutNode_69 rfl h4 ?_
      obtain ⟨r3, σ5, hc3, hJ⟩ := ax_bindE hJ
      refine aw_callVi (n := 73) (c_Machine_ofOne hc3) 24 rfl rfl Y_Machine_ofOne km_Machine_131 (by decide) (by decide) rfl rfl (Nat.le_of_ble_eq_true rfl) d_Machine_workOutNode_70 rfl (fun r9 s9 hp => ?_)
      obtain ⟨rfl, rfl⟩ := hp
      obtain ⟨h5, hJ⟩ := ax_need hJ
      refine as_27 (n := 74) d_Machine_workOutNode_73 rfl h5 ?_
      obtain ⟨σ6, eσ6, hJ⟩ := ax_letE hJ
      refine aw_let eσ6 ?_
      refine aw_goto (t := 111) d_Machine_workOutNode_74 (by decide) ?_
      refine aw_sub [1] rfl ?_
      exact t_Machine_workOutNode_111 x A _ hJ
  · rw [if_pos c1] at hJ
    refine aw_aload_n (n := 20) d_Machine_workOutNode_19 rfl rfl 1 rfl ?_
    refine gf_Machine_stack (n := 23) d_Machine_workOutNode_20 rfl kf_Machine_36 ?_
    refine aw_aload_n (n := 24) d_Machine_workOutNode_23 rfl rfl 1 rfl ?_
    refine gf_Machine_stackCount (n := 27) d_Machine_workOutNode_24 rfl kf_Machine_113 ?_
    refine aw_iload_n (n := 28) d_Machine_workOutNode_27 rfl rfl 2 rfl ?_
    refine aw_iconst (n := 29) (v := 3) d_Machine_workOutNode_28 rfl (by decide) ?_
    refine aw_icmp_ne (n := 32) (t := 41) d_Machine_workOutNode_29 rfl (by decide) (fun c3 => ?_) (fun c3 => ?_)
    · rw [if_neg c3] at hJ
      refine aw_iload_n (n := 42) d_Machine_workOutNode_41 rfl rfl 3 rfl ?_
      refine aw_sub [1] rfl ?_
      exact t_Machine_workOutNode_42 x A _ _ _ hJ
    · rw [if_pos c3] at hJ
      refine aw_aload_n (n := 33) d_Machine_workOutNode_32 rfl rfl 1 rfl ?_
      refine gf_Machine_values (n := 36) d_Machine_workOutNode_33 rfl kf_Machine_25 ?_
      refine aw_iload_n (n := 37) d_Machine_workOutNode_36 rfl rfl 3 rfl ?_
      obtain ⟨h6, hJ⟩ := ax_need hJ
      refine al_25 (n := 38) d_Machine_workOutNode_37 rfl h6 ?_
      refine aw_goto (t := 42) d_Machine_workOutNode_38 (by decide) ?_
      refine aw_sub [1] rfl ?_
      exact t_Machine_workOutNode_42 x A _ _ _ hJ
