def μ_TString_isLatin1_X0 : ax_M := (b_String_isLatin1, 1, "java/lang/String", (some .boolean), 0, 0, 0, 0)
theorem Y_TString_isLatin1_X0 : ax_YV μ_TString_isLatin1_X0 y_String_isLatin1 0 := ⟨⟨ax_mem (by decide +kernel) rfl, ax_mem (by decide +kernel) rfl, by decide, by decide, by decide +kernel⟩, ax_mem (by decide +kernel) rfl, ax_mem (by decide +kernel) rfl⟩
def J_TString_isLatin1_X0 (N : Nat) (σ : St) : Option (Int32 × St) :=
  some (1, σ)
set_option maxHeartbeats 1000000 in
theorem c_TString_isLatin1_X0 {N : Nat} {g : ax_G} {σ : St} {r9 : Int32} {s9 : St} (hJ : J_TString_isLatin1_X0 N σ = some (r9, s9)) : ax_CI μ_TString_isLatin1_X0 g y_String_isLatin1 (wT g) [.ref (g.2.2.2 2)] σ (ax_eqZ r9 s9) := by
  refine ax_CI.of (by decide +kernel) rfl (Nat.le_of_ble_eq_true rfl) (fun x A _ => ?_)
  show AW x μ_TString_isLatin1_X0 g A (wT g) (0, 0) (ax_QI x μ_TString_isLatin1_X0 g A (wT g) (ax_eqZ r9 s9)) 0 [(0, .ref (g.2.2.2 2))] [] σ
  rw [J_TString_isLatin1_X0] at hJ
  refine gs_COMPACT_STRINGS (n := 3) d_String_isLatin1_0 rfl kf_String_38 ?_
  refine aw_if_eq (n := 6) (t := 17) d_String_isLatin1_3 rfl (by decide) (fun c9 => absurd c9 (by decide)) (fun _ => ?_)
  refine aw_aload_n (n := 7) d_String_isLatin1_6 rfl rfl 0 rfl ?_
  refine gx_coder_0 (n := 10) d_String_isLatin1_7 rfl kf_String_15 ?_
  refine aw_if_ne (n := 13) (t := 17) d_String_isLatin1_10 rfl (by decide) (fun c9 => absurd c9 (by decide)) (fun _ => ?_)
  refine aw_iconst (n := 14) (v := 1) d_String_isLatin1_13 rfl (by decide) ?_
  refine aw_goto (t := 18) d_String_isLatin1_14 (by decide) ?_
  exact aw_zret d_String_isLatin1_18 rfl rfl (ax_retZ hJ rfl)
abbrev b_Latin_charAt : ByteArray := prog_14_method_2_code
def y_Latin_charAt : MethodName := ⟨"java/lang/StringLatin1", "charAt", "([BI)C"⟩
theorem d_Latin_charAt_0 : decode b_Latin_charAt 0 = .ok (.iload_n 1, 1) := by decide +kernel
theorem d_Latin_charAt_1 : decode b_Latin_charAt 1 = .ok (.aload_n 0, 1) := by decide +kernel
theorem d_Latin_charAt_2 : decode b_Latin_charAt 2 = .ok (.arraylength, 1) := by decide +kernel
theorem d_Latin_charAt_3 : decode b_Latin_charAt 3 = .ok (.invokestatic 9, 3) := by decide +kernel
theorem d_Latin_charAt_6 : decode b_Latin_charAt 6 = .ok (.aload_n 0, 1) := by decide +kernel
theorem d_Latin_charAt_7 : decode b_Latin_charAt 7 = .ok (.iload_n 1, 1) := by decide +kernel
theorem d_Latin_charAt_8 : decode b_Latin_charAt 8 = .ok (.baload, 1) := by decide +kernel
theorem d_Latin_charAt_9 : decode b_Latin_charAt 9 = .ok (.sipush 255, 3) := by decide +kernel
theorem d_Latin_charAt_12 : decode b_Latin_charAt 12 = .ok (.iand, 1) := by decide +kernel
theorem d_Latin_charAt_13 : decode b_Latin_charAt 13 = .ok (.i2c, 1) := by decide +kernel
theorem d_Latin_charAt_14 : decode b_Latin_charAt 14 = .ok (.ireturn, 1) := by decide +kernel
def μ_TLatin_charAt_Y0 : ax_M := (b_Latin_charAt, 2, "java/lang/StringLatin1", (some .char), 2, 43, 0, 0)
theorem Y_TLatin_charAt_Y0 : ax_YS μ_TLatin_charAt_Y0 y_Latin_charAt 2 := ⟨⟨ax_mem (by decide +kernel) rfl, ax_mem (by decide +kernel) rfl, by decide, by decide, by decide +kernel⟩, ax_mem (by decide +kernel) rfl⟩
theorem km_Latin_9 : Cond.methodLink "java/lang/StringLatin1" 9 ⟨"java/lang/String", "checkIndex", "(II)V"⟩ ∈ ax_T := ax_mem (by decide +kernel) rfl
def J_TLatin_charAt_Y0 (N : Nat) (a1 : Int32) (σ : St) : Option (Int32 × St) :=
  ax_bindV (J_checkIndex N a1 102 σ) (fun σ1 =>
  (if (inB a1 102) = true then some (((((tWORDS a1.toNatClampNeg) &&& 255).toUInt32 % 65536).toInt32), σ1) else none))
set_option maxHeartbeats 1000000 in
theorem c_TLatin_charAt_Y0 {N : Nat} {g : ax_G} {a1 : Int32} {σ : St} {r9 : Int32} {s9 : St} (hJ : J_TLatin_charAt_Y0 N a1 σ = some (r9, s9)) : ax_CI μ_TLatin_charAt_Y0 g y_Latin_charAt (wT g) [.ref (g.2.2.2 4), .int a1] σ (ax_eqC r9 s9) := by
  refine ax_CI.of (by decide +kernel) rfl (Nat.le_of_ble_eq_true rfl) (fun x A _ => ?_)
  show AW x μ_TLatin_charAt_Y0 g A (wT g) (0, 0) (ax_QI x μ_TLatin_charAt_Y0 g A (wT g) (ax_eqC r9 s9)) 0 [(0, .ref (g.2.2.2 4)), (1, .int a1)] [] σ
  rw [J_TLatin_charAt_Y0] at hJ
  refine aw_iload_n (n := 1) d_Latin_charAt_0 rfl rfl 1 rfl ?_
  refine aw_aload_n (n := 2) d_Latin_charAt_1 rfl rfl 0 rfl ?_
  refine an_Y0 (n := 3) d_Latin_charAt_2 rfl ?_
  obtain ⟨σ1, hc1, hJ⟩ := ax_bindVE hJ
  refine aw_callSv (n := 6) (c_checkIndex hc1) Y_checkIndex km_Latin_9 (by decide) (by decide) rfl rfl (Nat.le_of_ble_eq_true rfl) d_Latin_charAt_3 rfl (fun s9 hp => ?_)
  subst hp
  refine aw_aload_n (n := 7) d_Latin_charAt_6 rfl rfl 0 rfl ?_
  refine aw_iload_n (n := 8) d_Latin_charAt_7 rfl rfl 1 rfl ?_
  obtain ⟨h1, hJ⟩ := ax_need hJ
  refine al_Y0 (n := 9) d_Latin_charAt_8 rfl h1 ?_
  refine aw_sipush (n := 12) (v := 255) d_Latin_charAt_9 rfl (by decide) ?_
  refine aw_iand (n := 13) d_Latin_charAt_12 rfl ?_
  refine aw_i2c (n := 14) d_Latin_charAt_13 rfl rfl ?_
  exact aw_zret d_Latin_charAt_14 rfl (pk_nc _) (ax_retC hJ (pk_nc _))
abbrev b_String_charAt : ByteArray := prog_13_method_56_code
def y_String_charAt : MethodName := ⟨"java/lang/String", "charAt", "(I)C"⟩
theorem d_String_charAt_0 : decode b_String_charAt 0 = .ok (.aload_n 0, 1) := by decide +kernel
theorem d_String_charAt_1 : decode b_String_charAt 1 = .ok (.invokevirtual 492, 3) := by decide +kernel
theorem d_String_charAt_4 : decode b_String_charAt 4 = .ok (.ifCond .eq 12, 3) := by decide +kernel
theorem d_String_charAt_7 : decode b_String_charAt 7 = .ok (.aload_n 0, 1) := by decide +kernel
theorem d_String_charAt_8 : decode b_String_charAt 8 = .ok (.getfield 9, 3) := by decide +kernel
theorem d_String_charAt_11 : decode b_String_charAt 11 = .ok (.iload_n 1, 1) := by decide +kernel
theorem d_String_charAt_12 : decode b_String_charAt 12 = .ok (.invokestatic 495, 3) := by decide +kernel
theorem d_String_charAt_15 : decode b_String_charAt 15 = .ok (.ireturn, 1) := by decide +kernel
theorem d_String_charAt_16 : decode b_String_charAt 16 = .ok (.aload_n 0, 1) := by decide +kernel
theorem d_String_charAt_17 : decode b_String_charAt 17 = .ok (.getfield 9, 3) := by decide +kernel
theorem d_String_charAt_20 : decode b_String_charAt 20 = .ok (.iload_n 1, 1) := by decide +kernel
theorem d_String_charAt_21 : decode b_String_charAt 21 = .ok (.invokestatic 498, 3) := by decide +kernel
theorem d_String_charAt_24 : decode b_String_charAt 24 = .ok (.ireturn, 1) := by decide +kernel
def μ_TString_charAt_X0 : ax_M := (b_String_charAt, 2, "java/lang/String", (some .char), 3, 64, 0, 0)
theorem Y_TString_charAt_X0 : ax_YV μ_TString_charAt_X0 y_String_charAt 1 := ⟨⟨ax_mem (by decide +kernel) rfl, ax_mem (by decide +kernel) rfl, by decide, by decide, by decide +kernel⟩, ax_mem (by decide +kernel) rfl, ax_mem (by decide +kernel) rfl⟩
theorem km_String_495 : Cond.methodLink "java/lang/String" 495 ⟨"java/lang/StringLatin1", "charAt", "([BI)C"⟩ ∈ ax_T := ax_mem (by decide +kernel) rfl
def J_TString_charAt_X0 (N : Nat) (a1 : Int32) (σ : St) : Option (Int32 × St) :=
  ax_bind (J_TString_isLatin1_X0 N σ) (fun r1 σ1 =>
  (if (decide (r1 = 1)) = true then ax_bind (J_TLatin_charAt_Y0 N a1 σ1) (fun r2 σ2 =>
  some (r2, σ2)) else none))
set_option maxHeartbeats 1000000 in
theorem c_TString_charAt_X0 {N : Nat} {g : ax_G} {a1 : Int32} {σ : St} {r9 : Int32} {s9 : St} (hJ : J_TString_charAt_X0 N a1 σ = some (r9, s9)) : ax_CI μ_TString_charAt_X0 g y_String_charAt (wT g) [.ref (g.2.2.2 2), .int a1] σ (ax_eqC r9 s9) := by
  refine ax_CI.of (by decide +kernel) rfl (Nat.le_of_ble_eq_true rfl) (fun x A _ => ?_)
  show AW x μ_TString_charAt_X0 g A (wT g) (0, 0) (ax_QI x μ_TString_charAt_X0 g A (wT g) (ax_eqC r9 s9)) 0 [(0, .ref (g.2.2.2 2)), (1, .int a1)] [] σ
  rw [J_TString_charAt_X0] at hJ
  refine aw_aload_n (n := 1) d_String_charAt_0 rfl rfl 0 rfl ?_
  obtain ⟨r1, σ1, hc1, hJ⟩ := ax_bindE hJ
  refine aw_callXi (n := 4) (c_TString_isLatin1_X0 hc1) rx_0 Y_TString_isLatin1_X0 km_String_492 (by decide) (by decide) rfl rfl (Nat.le_of_ble_eq_true rfl) d_String_charAt_1 rfl (fun r9 s9 hp => ?_)
  obtain ⟨rfl, rfl, hb1⟩ := hp
  obtain ⟨h1, hJ⟩ := ax_need hJ
  refine aw_top (of_decide_eq_true h1) ?_
  refine aw_if_eq (n := 7) (t := 16) d_String_charAt_4 rfl (by decide) (fun c9 => absurd c9 (by decide)) (fun _ => ?_)
  refine aw_aload_n (n := 8) d_String_charAt_7 rfl rfl 0 rfl ?_
  refine gx_value_0 (n := 11) d_String_charAt_8 rfl kf_String_9 ?_
  refine aw_iload_n (n := 12) d_String_charAt_11 rfl rfl 1 rfl ?_
  obtain ⟨r2, σ2, hc2, hJ⟩ := ax_bindE hJ
  refine aw_callSi (n := 15) (c_TLatin_charAt_Y0 hc2) Y_TLatin_charAt_Y0 km_String_495 (by decide) (by decide) rfl rfl (Nat.le_of_ble_eq_true rfl) d_String_charAt_12 rfl (fun r9 s9 hp => ?_)
  obtain ⟨rfl, rfl, hb2⟩ := hp
  exact aw_zret d_String_charAt_15 rfl hb2 (ax_retC hJ hb2)
def μ_TTokens_withLetter : ax_M := (b_Tokens_withLetter, 2, "DotConsole$Tokens", (some .int), 0, 0, 0, 0)
theorem Y_TTokens_withLetter : ax_YS μ_TTokens_withLetter y_Tokens_withLetter 2 := ⟨⟨ax_mem (by decide +kernel) rfl, ax_mem (by decide +kernel) rfl, by decide, by decide, by decide +kernel⟩, ax_mem (by decide +kernel) rfl⟩
def J_TTokens_withLetter (N : Nat) (a0 : Int32) (a1 : Int32) (σ : St) : Option (Int32 × St) :=
  some (((a0 <<< (5 &&& 31)) ||| (a1 &&& 31)), σ)
set_option maxHeartbeats 1000000 in
theorem c_TTokens_withLetter {N : Nat} {g : ax_G} {a0 : Int32} {a1 : Int32} {σ : St} {r9 : Int32} {s9 : St} (hJ : J_TTokens_withLetter N a0 a1 σ = some (r9, s9)) : ax_CI μ_TTokens_withLetter g y_Tokens_withLetter (wT g) [.int a0, .int a1] σ (ax_eqI r9 s9) := by
  refine ax_CI.of (plainFor_of_name rfl) rfl (Nat.le_of_ble_eq_true rfl) (fun x A _ => ?_)
  show AW x μ_TTokens_withLetter g A (wT g) (0, 0) (ax_QI x μ_TTokens_withLetter g A (wT g) (ax_eqI r9 s9)) 0 [(0, .int a0), (1, .int a1)] [] σ
  rw [J_TTokens_withLetter] at hJ
  refine aw_iload_n (n := 1) d_Tokens_withLetter_0 rfl rfl 0 rfl ?_
  refine aw_iconst (n := 2) (v := 5) d_Tokens_withLetter_1 rfl (by decide) ?_
  refine aw_ishl (n := 3) d_Tokens_withLetter_2 rfl ?_
  refine aw_iload_n (n := 4) d_Tokens_withLetter_3 rfl rfl 1 rfl ?_
  refine aw_bipush (n := 6) (v := 31) d_Tokens_withLetter_4 rfl (by decide) ?_
  refine aw_iand (n := 7) d_Tokens_withLetter_6 rfl ?_
  refine aw_ior (n := 8) d_Tokens_withLetter_7 rfl ?_
  exact aw_iret d_Tokens_withLetter_8 rfl (ax_ret hJ)
