/-! WALKED: Tokens_append, Con_feed, Tokens_isLetter, Tokens_isDigit, CString_isLatin1_X1, CString_coder_X1, CString_length_X1, CLatin_canEncode, CMath_max, CMath_min, CLatin_indexOfChar_Y1, CLatin_indexOf_Y1, CString_indexOf_1_X1, CString_indexOf_0_X1, Tokens_endOfDigits, Tokens_digitsFrom, Tokens_cutNumber, Tokens_kindOfWord. Printed by wip/whole/build.py. -/
abbrev b_Tokens_append : ByteArray := prog_8_method_2_code
def y_Tokens_append : MethodName := ⟨"DotConsole$Tokens", "append", "(C)Z"⟩
theorem d_Tokens_append_0 : decode b_Tokens_append 0 = .ok (.aload_n 0, 1) := by decide +kernel
theorem d_Tokens_append_1 : decode b_Tokens_append 1 = .ok (.getfield 40, 3) := by decide +kernel
theorem d_Tokens_append_4 : decode b_Tokens_append 4 = .ok (.bipush 48, 2) := by decide +kernel
theorem d_Tokens_append_6 : decode b_Tokens_append 6 = .ok (.if_icmp .ne 5, 3) := by decide +kernel
theorem d_Tokens_append_9 : decode b_Tokens_append 9 = .ok (.iconst 0, 1) := by decide +kernel
theorem d_Tokens_append_10 : decode b_Tokens_append 10 = .ok (.ireturn, 1) := by decide +kernel
theorem d_Tokens_append_11 : decode b_Tokens_append 11 = .ok (.aload_n 0, 1) := by decide +kernel
theorem d_Tokens_append_12 : decode b_Tokens_append 12 = .ok (.getfield 15, 3) := by decide +kernel
theorem d_Tokens_append_15 : decode b_Tokens_append 15 = .ok (.aload_n 0, 1) := by decide +kernel
theorem d_Tokens_append_16 : decode b_Tokens_append 16 = .ok (.getfield 40, 3) := by decide +kernel
theorem d_Tokens_append_19 : decode b_Tokens_append 19 = .ok (.iload_n 1, 1) := by decide +kernel
theorem d_Tokens_append_20 : decode b_Tokens_append 20 = .ok (.castore, 1) := by decide +kernel
theorem d_Tokens_append_21 : decode b_Tokens_append 21 = .ok (.aload_n 0, 1) := by decide +kernel
theorem d_Tokens_append_22 : decode b_Tokens_append 22 = .ok (.dup, 1) := by decide +kernel
theorem d_Tokens_append_23 : decode b_Tokens_append 23 = .ok (.getfield 40, 3) := by decide +kernel
theorem d_Tokens_append_26 : decode b_Tokens_append 26 = .ok (.iconst 1, 1) := by decide +kernel
theorem d_Tokens_append_27 : decode b_Tokens_append 27 = .ok (.iadd, 1) := by decide +kernel
theorem d_Tokens_append_28 : decode b_Tokens_append 28 = .ok (.putfield 40, 3) := by decide +kernel
theorem d_Tokens_append_31 : decode b_Tokens_append 31 = .ok (.iconst 1, 1) := by decide +kernel
theorem d_Tokens_append_32 : decode b_Tokens_append 32 = .ok (.ireturn, 1) := by decide +kernel
def μ_Tokens_append : ax_M := (b_Tokens_append, 2, "DotConsole$Tokens", (some .boolean), 0, 0, 0, 0)
theorem Y_Tokens_append : ax_YV μ_Tokens_append y_Tokens_append 1 := ⟨⟨ax_mem (by decide +kernel) rfl, ax_mem (by decide +kernel) rfl, by decide, by decide, by decide +kernel⟩, ax_mem (by decide +kernel) rfl, ax_mem (by decide +kernel) rfl⟩
theorem kf_Tokens_40 : Cond.fieldLink "DotConsole$Tokens" 40 "DotConsole$Tokens" "length" "I" ∈ ax_T := ax_mem (by decide +kernel) rfl
theorem kf_Tokens_15 : Cond.fieldLink "DotConsole$Tokens" 15 "DotConsole$Tokens" "text" "[C" ∈ ax_T := ax_mem (by decide +kernel) rfl
def J_Tokens_append (N : Nat) (a1 : Int32) (σ : St) : Option (Int32 × St) :=
  (if (σ.1 1) = 48 then
  some (0, σ)
  else (if (inB (σ.1 1) 48) = true then ax_let (sA σ 1 (σ.1 1).toNatClampNeg (vp_nar .char a1)) (fun σ1 =>
  ax_let (sF σ1 1 ((σ1.1 1) + 1)) (fun σ2 =>
  some (1, σ2))) else none))
set_option maxHeartbeats 1000000 in
theorem c_Tokens_append {N : Nat} {g : ax_G} {a1 : Int32} {σ : St} {r9 : Int32} {s9 : St} (hJ : J_Tokens_append N a1 σ = some (r9, s9)) : ax_CI μ_Tokens_append g y_Tokens_append (wC g) [.ref (g.2.1 1), .int a1] σ (ax_eqZ r9 s9) := by
  refine ax_CI.of (plainFor_of_name rfl) rfl (Nat.le_of_ble_eq_true rfl) (fun x A _ => ?_)
  show AW x μ_Tokens_append g A (wC g) (0, 0) (ax_QI x μ_Tokens_append g A (wC g) (ax_eqZ r9 s9)) 0 [(0, .ref (g.2.1 1)), (1, .int a1)] [] σ
  rw [J_Tokens_append] at hJ
  refine aw_aload_n (n := 1) d_Tokens_append_0 rfl rfl 0 rfl ?_
  refine gf_Tokens_length (n := 4) d_Tokens_append_1 rfl kf_Tokens_40 ?_
  refine aw_bipush (n := 6) (v := 48) d_Tokens_append_4 rfl (by decide) ?_
  refine aw_icmp_ne (n := 9) (t := 11) d_Tokens_append_6 rfl (by decide) (fun c1 => ?_) (fun c1 => ?_)
  · rw [if_neg c1] at hJ
    refine aw_aload_n (n := 12) d_Tokens_append_11 rfl rfl 0 rfl ?_
    refine gf_Tokens_text (n := 15) d_Tokens_append_12 rfl kf_Tokens_15 ?_
    refine aw_aload_n (n := 16) d_Tokens_append_15 rfl rfl 0 rfl ?_
    refine gf_Tokens_length (n := 19) d_Tokens_append_16 rfl kf_Tokens_40 ?_
    refine aw_iload_n (n := 20) d_Tokens_append_19 rfl rfl 1 rfl ?_
    obtain ⟨h1, hJ⟩ := ax_need hJ
    refine as_3 (n := 21) d_Tokens_append_20 rfl h1 ?_
    obtain ⟨σ1, eσ1, hJ⟩ := ax_letE hJ
    refine aw_let eσ1 ?_
    refine aw_aload_n (n := 22) d_Tokens_append_21 rfl rfl 0 rfl ?_
    refine aw_dup (n := 23) d_Tokens_append_22 rfl rfl ?_
    refine gf_Tokens_length (n := 26) d_Tokens_append_23 rfl kf_Tokens_40 ?_
    refine aw_iconst (n := 27) (v := 1) d_Tokens_append_26 rfl (by decide) ?_
    refine aw_iadd (n := 28) d_Tokens_append_27 rfl ?_
    refine pf_Tokens_length (n := 31) d_Tokens_append_28 rfl kf_Tokens_40 ?_
    obtain ⟨σ2, eσ2, hJ⟩ := ax_letE hJ
    refine aw_let eσ2 ?_
    refine aw_iconst (n := 32) (v := 1) d_Tokens_append_31 rfl (by decide) ?_
    exact aw_zret d_Tokens_append_32 rfl rfl (ax_retZ hJ rfl)
  · rw [if_pos c1] at hJ
    refine aw_iconst (n := 10) (v := 0) d_Tokens_append_9 rfl (by decide) ?_
    exact aw_zret d_Tokens_append_10 rfl rfl (ax_retZ hJ rfl)
abbrev b_Con_feed : ByteArray := prog_1_method_2_code
def y_Con_feed : MethodName := ⟨"DotConsole", "feed", "(I)I"⟩
theorem d_Con_feed_0 : decode b_Con_feed 0 = .ok (.iload_n 1, 1) := by decide +kernel
theorem d_Con_feed_1 : decode b_Con_feed 1 = .ok (.bipush 32, 2) := by decide +kernel
theorem d_Con_feed_3 : decode b_Con_feed 3 = .ok (.if_icmp .lt 9, 3) := by decide +kernel
theorem d_Con_feed_6 : decode b_Con_feed 6 = .ok (.iload_n 1, 1) := by decide +kernel
theorem d_Con_feed_7 : decode b_Con_feed 7 = .ok (.bipush 126, 2) := by decide +kernel
theorem d_Con_feed_9 : decode b_Con_feed 9 = .ok (.if_icmp .le 5, 3) := by decide +kernel
theorem d_Con_feed_12 : decode b_Con_feed 12 = .ok (.iconst (-1), 1) := by decide +kernel
theorem d_Con_feed_13 : decode b_Con_feed 13 = .ok (.ireturn, 1) := by decide +kernel
theorem d_Con_feed_14 : decode b_Con_feed 14 = .ok (.aload_n 0, 1) := by decide +kernel
theorem d_Con_feed_15 : decode b_Con_feed 15 = .ok (.getfield 10, 3) := by decide +kernel
theorem d_Con_feed_18 : decode b_Con_feed 18 = .ok (.iload_n 1, 1) := by decide +kernel
theorem d_Con_feed_19 : decode b_Con_feed 19 = .ok (.i2c, 1) := by decide +kernel
theorem d_Con_feed_20 : decode b_Con_feed 20 = .ok (.invokevirtual 52, 3) := by decide +kernel
theorem d_Con_feed_23 : decode b_Con_feed 23 = .ok (.ifCond .eq 13, 3) := by decide +kernel
theorem d_Con_feed_26 : decode b_Con_feed 26 = .ok (.aload_n 0, 1) := by decide +kernel
theorem d_Con_feed_27 : decode b_Con_feed 27 = .ok (.getfield 10, 3) := by decide +kernel
theorem d_Con_feed_30 : decode b_Con_feed 30 = .ok (.getfield 56, 3) := by decide +kernel
theorem d_Con_feed_33 : decode b_Con_feed 33 = .ok (.goto 5, 3) := by decide +kernel
theorem d_Con_feed_36 : decode b_Con_feed 36 = .ok (.bipush (-2), 2) := by decide +kernel
theorem d_Con_feed_38 : decode b_Con_feed 38 = .ok (.ireturn, 1) := by decide +kernel
def μ_Con_feed : ax_M := (b_Con_feed, 2, "DotConsole", (some .int), 1, 21, 0, 0)
theorem Y_Con_feed : ax_YV μ_Con_feed y_Con_feed 1 := ⟨⟨ax_mem (by decide +kernel) rfl, ax_mem (by decide +kernel) rfl, by decide, by decide, by decide +kernel⟩, ax_mem (by decide +kernel) rfl, ax_mem (by decide +kernel) rfl⟩
theorem kf_Con_10 : Cond.fieldLink "DotConsole" 10 "DotConsole" "tokens" "LDotConsole$Tokens;" ∈ ax_T := ax_mem (by decide +kernel) rfl
theorem km_Con_52 : Cond.methodLink "DotConsole" 52 ⟨"DotConsole$Tokens", "append", "(C)Z"⟩ ∈ ax_T := ax_mem (by decide +kernel) rfl
theorem kf_Con_56 : Cond.fieldLink "DotConsole" 56 "DotConsole$Tokens" "length" "I" ∈ ax_T := ax_mem (by decide +kernel) rfl
def J_Con_feed (N : Nat) (a1 : Int32) (σ : St) : Option (Int32 × St) :=
  (if a1 < 32 then
  some ((-1), σ)
  else (if a1 ≤ 126 then
  ax_bind (J_Tokens_append N ((a1.toUInt32 % 65536).toInt32) σ) (fun r1 σ1 =>
  (if r1 = 0 then
  some ((-2), σ1)
  else some ((σ1.1 1), σ1)))
  else some ((-1), σ)))
set_option maxHeartbeats 1000000 in
theorem c_Con_feed {N : Nat} {g : ax_G} {a1 : Int32} {σ : St} {r9 : Int32} {s9 : St} (hJ : J_Con_feed N a1 σ = some (r9, s9)) : ax_CI μ_Con_feed g y_Con_feed (wC g) [.ref (g.2.1 0), .int a1] σ (ax_eqI r9 s9) := by
  refine ax_CI.of (plainFor_of_name rfl) rfl (Nat.le_of_ble_eq_true rfl) (fun x A _ => ?_)
  show AW x μ_Con_feed g A (wC g) (0, 0) (ax_QI x μ_Con_feed g A (wC g) (ax_eqI r9 s9)) 0 [(0, .ref (g.2.1 0)), (1, .int a1)] [] σ
  rw [J_Con_feed] at hJ
  refine aw_iload_n (n := 1) d_Con_feed_0 rfl rfl 1 rfl ?_
  refine aw_bipush (n := 3) (v := 32) d_Con_feed_1 rfl (by decide) ?_
  refine aw_icmp_lt (n := 6) (t := 12) d_Con_feed_3 rfl (by decide) (fun c1 => ?_) (fun c1 => ?_)
  · rw [if_pos c1] at hJ
    refine aw_iconst (n := 13) (v := -1) d_Con_feed_12 rfl (by decide) ?_
    exact aw_iret d_Con_feed_13 rfl (ax_ret hJ)
  · rw [if_neg c1] at hJ
    refine aw_iload_n (n := 7) d_Con_feed_6 rfl rfl 1 rfl ?_
    refine aw_bipush (n := 9) (v := 126) d_Con_feed_7 rfl (by decide) ?_
    refine aw_icmp_le (n := 12) (t := 14) d_Con_feed_9 rfl (by decide) (fun c2 => ?_) (fun c2 => ?_)
    · rw [if_pos c2] at hJ
      refine aw_aload_n (n := 15) d_Con_feed_14 rfl rfl 0 rfl ?_
      refine gf_Con_tokens (n := 18) d_Con_feed_15 rfl kf_Con_10 ?_
      refine aw_iload_n (n := 19) d_Con_feed_18 rfl rfl 1 rfl ?_
      refine aw_i2c (n := 20) d_Con_feed_19 rfl rfl ?_
      obtain ⟨r1, σ1, hc1, hJ⟩ := ax_bindE hJ
      refine aw_callVi (n := 23) (c_Tokens_append hc1) 1 rfl rfl Y_Tokens_append km_Con_52 (by decide) (by decide) rfl rfl (Nat.le_of_ble_eq_true rfl) d_Con_feed_20 rfl (fun r9 s9 hp => ?_)
      obtain ⟨rfl, rfl, hb1⟩ := hp
      refine aw_if_eq (n := 26) (t := 36) d_Con_feed_23 rfl (by decide) (fun c3 => ?_) (fun c3 => ?_)
      · rw [if_pos c3] at hJ
        refine aw_bipush (n := 38) (v := -2) d_Con_feed_36 rfl (by decide) ?_
        exact aw_iret d_Con_feed_38 rfl (ax_ret hJ)
      · rw [if_neg c3] at hJ
        refine aw_aload_n (n := 27) d_Con_feed_26 rfl rfl 0 rfl ?_
        refine gf_Con_tokens (n := 30) d_Con_feed_27 rfl kf_Con_10 ?_
        refine gf_Tokens_length (n := 33) d_Con_feed_30 rfl kf_Con_56 ?_
        refine aw_goto (t := 38) d_Con_feed_33 (by decide) ?_
        exact aw_iret d_Con_feed_38 rfl (ax_ret hJ)
    · rw [if_neg c2] at hJ
      refine aw_iconst (n := 13) (v := -1) d_Con_feed_12 rfl (by decide) ?_
      exact aw_iret d_Con_feed_13 rfl (ax_ret hJ)
abbrev b_Tokens_isLetter : ByteArray := prog_8_method_12_code
def y_Tokens_isLetter : MethodName := ⟨"DotConsole$Tokens", "isLetter", "(C)Z"⟩
theorem d_Tokens_isLetter_0 : decode b_Tokens_isLetter 0 = .ok (.iload_n 0, 1) := by decide +kernel
theorem d_Tokens_isLetter_1 : decode b_Tokens_isLetter 1 = .ok (.bipush 97, 2) := by decide +kernel
theorem d_Tokens_isLetter_3 : decode b_Tokens_isLetter 3 = .ok (.if_icmp .lt 13, 3) := by decide +kernel
theorem d_Tokens_isLetter_6 : decode b_Tokens_isLetter 6 = .ok (.iload_n 0, 1) := by decide +kernel
theorem d_Tokens_isLetter_7 : decode b_Tokens_isLetter 7 = .ok (.bipush 122, 2) := by decide +kernel
theorem d_Tokens_isLetter_9 : decode b_Tokens_isLetter 9 = .ok (.if_icmp .gt 7, 3) := by decide +kernel
theorem d_Tokens_isLetter_12 : decode b_Tokens_isLetter 12 = .ok (.iconst 1, 1) := by decide +kernel
theorem d_Tokens_isLetter_13 : decode b_Tokens_isLetter 13 = .ok (.goto 4, 3) := by decide +kernel
theorem d_Tokens_isLetter_16 : decode b_Tokens_isLetter 16 = .ok (.iconst 0, 1) := by decide +kernel
theorem d_Tokens_isLetter_17 : decode b_Tokens_isLetter 17 = .ok (.ireturn, 1) := by decide +kernel
def μ_Tokens_isLetter : ax_M := (b_Tokens_isLetter, 1, "DotConsole$Tokens", (some .boolean), 0, 0, 0, 0)
theorem Y_Tokens_isLetter : ax_YS μ_Tokens_isLetter y_Tokens_isLetter 1 := ⟨⟨ax_mem (by decide +kernel) rfl, ax_mem (by decide +kernel) rfl, by decide, by decide, by decide +kernel⟩, ax_mem (by decide +kernel) rfl⟩
def J_Tokens_isLetter (N : Nat) (a0 : Int32) (σ : St) : Option (Int32 × St) :=
  (if a0 < 97 then
  some (0, σ)
  else (if 122 < a0 then
  some (0, σ)
  else some (1, σ)))
set_option maxHeartbeats 1000000 in
theorem c_Tokens_isLetter {N : Nat} {g : ax_G} {a0 : Int32} {σ : St} {r9 : Int32} {s9 : St} (hJ : J_Tokens_isLetter N a0 σ = some (r9, s9)) : ax_CI μ_Tokens_isLetter g y_Tokens_isLetter (wC g) [.int a0] σ (ax_eqZ r9 s9) := by
  refine ax_CI.of (plainFor_of_name rfl) rfl (Nat.le_of_ble_eq_true rfl) (fun x A _ => ?_)
  show AW x μ_Tokens_isLetter g A (wC g) (0, 0) (ax_QI x μ_Tokens_isLetter g A (wC g) (ax_eqZ r9 s9)) 0 [(0, .int a0)] [] σ
  rw [J_Tokens_isLetter] at hJ
  refine aw_iload_n (n := 1) d_Tokens_isLetter_0 rfl rfl 0 rfl ?_
  refine aw_bipush (n := 3) (v := 97) d_Tokens_isLetter_1 rfl (by decide) ?_
  refine aw_icmp_lt (n := 6) (t := 16) d_Tokens_isLetter_3 rfl (by decide) (fun c1 => ?_) (fun c1 => ?_)
  · rw [if_pos c1] at hJ
    refine aw_iconst (n := 17) (v := 0) d_Tokens_isLetter_16 rfl (by decide) ?_
    exact aw_zret d_Tokens_isLetter_17 rfl rfl (ax_retZ hJ rfl)
  · rw [if_neg c1] at hJ
    refine aw_iload_n (n := 7) d_Tokens_isLetter_6 rfl rfl 0 rfl ?_
    refine aw_bipush (n := 9) (v := 122) d_Tokens_isLetter_7 rfl (by decide) ?_
    refine aw_icmp_gt (n := 12) (t := 16) d_Tokens_isLetter_9 rfl (by decide) (fun c2 => ?_) (fun c2 => ?_)
    · rw [if_pos c2] at hJ
      refine aw_iconst (n := 17) (v := 0) d_Tokens_isLetter_16 rfl (by decide) ?_
      exact aw_zret d_Tokens_isLetter_17 rfl rfl (ax_retZ hJ rfl)
    · rw [if_neg c2] at hJ
      refine aw_iconst (n := 13) (v := 1) d_Tokens_isLetter_12 rfl (by decide) ?_
      refine aw_goto (t := 17) d_Tokens_isLetter_13 (by decide) ?_
      exact aw_zret d_Tokens_isLetter_17 rfl rfl (ax_retZ hJ rfl)
abbrev b_Tokens_isDigit : ByteArray := prog_8_method_11_code
def y_Tokens_isDigit : MethodName := ⟨"DotConsole$Tokens", "isDigit", "(C)Z"⟩
theorem d_Tokens_isDigit_0 : decode b_Tokens_isDigit 0 = .ok (.iload_n 0, 1) := by decide +kernel
theorem d_Tokens_isDigit_1 : decode b_Tokens_isDigit 1 = .ok (.bipush 48, 2) := by decide +kernel
theorem d_Tokens_isDigit_3 : decode b_Tokens_isDigit 3 = .ok (.if_icmp .lt 13, 3) := by decide +kernel
theorem d_Tokens_isDigit_6 : decode b_Tokens_isDigit 6 = .ok (.iload_n 0, 1) := by decide +kernel
theorem d_Tokens_isDigit_7 : decode b_Tokens_isDigit 7 = .ok (.bipush 57, 2) := by decide +kernel
theorem d_Tokens_isDigit_9 : decode b_Tokens_isDigit 9 = .ok (.if_icmp .gt 7, 3) := by decide +kernel
theorem d_Tokens_isDigit_12 : decode b_Tokens_isDigit 12 = .ok (.iconst 1, 1) := by decide +kernel
theorem d_Tokens_isDigit_13 : decode b_Tokens_isDigit 13 = .ok (.goto 4, 3) := by decide +kernel
theorem d_Tokens_isDigit_16 : decode b_Tokens_isDigit 16 = .ok (.iconst 0, 1) := by decide +kernel
theorem d_Tokens_isDigit_17 : decode b_Tokens_isDigit 17 = .ok (.ireturn, 1) := by decide +kernel
def μ_Tokens_isDigit : ax_M := (b_Tokens_isDigit, 1, "DotConsole$Tokens", (some .boolean), 0, 0, 0, 0)
theorem Y_Tokens_isDigit : ax_YS μ_Tokens_isDigit y_Tokens_isDigit 1 := ⟨⟨ax_mem (by decide +kernel) rfl, ax_mem (by decide +kernel) rfl, by decide, by decide, by decide +kernel⟩, ax_mem (by decide +kernel) rfl⟩
def J_Tokens_isDigit (N : Nat) (a0 : Int32) (σ : St) : Option (Int32 × St) :=
  (if a0 < 48 then
  some (0, σ)
  else (if 57 < a0 then
  some (0, σ)
  else some (1, σ)))
set_option maxHeartbeats 1000000 in
theorem c_Tokens_isDigit {N : Nat} {g : ax_G} {a0 : Int32} {σ : St} {r9 : Int32} {s9 : St} (hJ : J_Tokens_isDigit N a0 σ = some (r9, s9)) : ax_CI μ_Tokens_isDigit g y_Tokens_isDigit (wC g) [.int a0] σ (ax_eqZ r9 s9) := by
  refine ax_CI.of (plainFor_of_name rfl) rfl (Nat.le_of_ble_eq_true rfl) (fun x A _ => ?_)
  show AW x μ_Tokens_isDigit g A (wC g) (0, 0) (ax_QI x μ_Tokens_isDigit g A (wC g) (ax_eqZ r9 s9)) 0 [(0, .int a0)] [] σ
  rw [J_Tokens_isDigit] at hJ
  refine aw_iload_n (n := 1) d_Tokens_isDigit_0 rfl rfl 0 rfl ?_
  refine aw_bipush (n := 3) (v := 48) d_Tokens_isDigit_1 rfl (by decide) ?_
  refine aw_icmp_lt (n := 6) (t := 16) d_Tokens_isDigit_3 rfl (by decide) (fun c1 => ?_) (fun c1 => ?_)
  · rw [if_pos c1] at hJ
    refine aw_iconst (n := 17) (v := 0) d_Tokens_isDigit_16 rfl (by decide) ?_
    exact aw_zret d_Tokens_isDigit_17 rfl rfl (ax_retZ hJ rfl)
  · rw [if_neg c1] at hJ
    refine aw_iload_n (n := 7) d_Tokens_isDigit_6 rfl rfl 0 rfl ?_
    refine aw_bipush (n := 9) (v := 57) d_Tokens_isDigit_7 rfl (by decide) ?_
    refine aw_icmp_gt (n := 12) (t := 16) d_Tokens_isDigit_9 rfl (by decide) (fun c2 => ?_) (fun c2 => ?_)
    · rw [if_pos c2] at hJ
      refine aw_iconst (n := 17) (v := 0) d_Tokens_isDigit_16 rfl (by decide) ?_
      exact aw_zret d_Tokens_isDigit_17 rfl rfl (ax_retZ hJ rfl)
    · rw [if_neg c2] at hJ
      refine aw_iconst (n := 13) (v := 1) d_Tokens_isDigit_12 rfl (by decide) ?_
      refine aw_goto (t := 17) d_Tokens_isDigit_13 (by decide) ?_
      exact aw_zret d_Tokens_isDigit_17 rfl rfl (ax_retZ hJ rfl)
abbrev b_String_isLatin1 : ByteArray := prog_13_method_154_code
def y_String_isLatin1 : MethodName := ⟨"java/lang/String", "isLatin1", "()Z"⟩
theorem d_String_isLatin1_0 : decode b_String_isLatin1 0 = .ok (.getstatic 38, 3) := by decide +kernel
theorem d_String_isLatin1_3 : decode b_String_isLatin1 3 = .ok (.ifCond .eq 14, 3) := by decide +kernel
theorem d_String_isLatin1_6 : decode b_String_isLatin1 6 = .ok (.aload_n 0, 1) := by decide +kernel
theorem d_String_isLatin1_7 : decode b_String_isLatin1 7 = .ok (.getfield 15, 3) := by decide +kernel
theorem d_String_isLatin1_10 : decode b_String_isLatin1 10 = .ok (.ifCond .ne 7, 3) := by decide +kernel
theorem d_String_isLatin1_13 : decode b_String_isLatin1 13 = .ok (.iconst 1, 1) := by decide +kernel
theorem d_String_isLatin1_14 : decode b_String_isLatin1 14 = .ok (.goto 4, 3) := by decide +kernel
theorem d_String_isLatin1_17 : decode b_String_isLatin1 17 = .ok (.iconst 0, 1) := by decide +kernel
theorem d_String_isLatin1_18 : decode b_String_isLatin1 18 = .ok (.ireturn, 1) := by decide +kernel
def μ_CString_isLatin1_X1 : ax_M := (b_String_isLatin1, 1, "java/lang/String", (some .boolean), 0, 0, 0, 0)
theorem Y_CString_isLatin1_X1 : ax_YV μ_CString_isLatin1_X1 y_String_isLatin1 0 := ⟨⟨ax_mem (by decide +kernel) rfl, ax_mem (by decide +kernel) rfl, by decide, by decide, by decide +kernel⟩, ax_mem (by decide +kernel) rfl, ax_mem (by decide +kernel) rfl⟩
theorem kf_String_38 : Cond.fieldLink "java/lang/String" 38 "java/lang/String" "COMPACT_STRINGS" "Z" ∈ ax_T := ax_mem (by decide +kernel) rfl
theorem kf_String_15 : Cond.fieldLink "java/lang/String" 15 "java/lang/String" "coder" "B" ∈ ax_T := ax_mem (by decide +kernel) rfl
def J_CString_isLatin1_X1 (N : Nat) (σ : St) : Option (Int32 × St) :=
  some (1, σ)
set_option maxHeartbeats 1000000 in
theorem c_CString_isLatin1_X1 {N : Nat} {g : ax_G} {σ : St} {r9 : Int32} {s9 : St} (hJ : J_CString_isLatin1_X1 N σ = some (r9, s9)) : ax_CI μ_CString_isLatin1_X1 g y_String_isLatin1 (wC g) [.ref (g.2.2.2 3)] σ (ax_eqZ r9 s9) := by
  refine ax_CI.of (by decide +kernel) rfl (Nat.le_of_ble_eq_true rfl) (fun x A _ => ?_)
  show AW x μ_CString_isLatin1_X1 g A (wC g) (0, 0) (ax_QI x μ_CString_isLatin1_X1 g A (wC g) (ax_eqZ r9 s9)) 0 [(0, .ref (g.2.2.2 3))] [] σ
  rw [J_CString_isLatin1_X1] at hJ
  refine gs_COMPACT_STRINGS (n := 3) d_String_isLatin1_0 rfl kf_String_38 ?_
  refine aw_if_eq (n := 6) (t := 17) d_String_isLatin1_3 rfl (by decide) (fun c9 => absurd c9 (by decide)) (fun _ => ?_)
  refine aw_aload_n (n := 7) d_String_isLatin1_6 rfl rfl 0 rfl ?_
  refine gx_coder_1 (n := 10) d_String_isLatin1_7 rfl kf_String_15 ?_
  refine aw_if_ne (n := 13) (t := 17) d_String_isLatin1_10 rfl (by decide) (fun c9 => absurd c9 (by decide)) (fun _ => ?_)
  refine aw_iconst (n := 14) (v := 1) d_String_isLatin1_13 rfl (by decide) ?_
  refine aw_goto (t := 18) d_String_isLatin1_14 (by decide) ?_
  exact aw_zret d_String_isLatin1_18 rfl rfl (ax_retZ hJ rfl)
abbrev b_String_coder : ByteArray := prog_13_method_152_code
def y_String_coder : MethodName := ⟨"java/lang/String", "coder", "()B"⟩
theorem d_String_coder_0 : decode b_String_coder 0 = .ok (.getstatic 38, 3) := by decide +kernel
theorem d_String_coder_3 : decode b_String_coder 3 = .ok (.ifCond .eq 10, 3) := by decide +kernel
theorem d_String_coder_6 : decode b_String_coder 6 = .ok (.aload_n 0, 1) := by decide +kernel
theorem d_String_coder_7 : decode b_String_coder 7 = .ok (.getfield 15, 3) := by decide +kernel
theorem d_String_coder_10 : decode b_String_coder 10 = .ok (.goto 4, 3) := by decide +kernel
theorem d_String_coder_13 : decode b_String_coder 13 = .ok (.iconst 1, 1) := by decide +kernel
theorem d_String_coder_14 : decode b_String_coder 14 = .ok (.ireturn, 1) := by decide +kernel
def μ_CString_coder_X1 : ax_M := (b_String_coder, 1, "java/lang/String", (some .byte), 0, 0, 0, 0)
theorem Y_CString_coder_X1 : ax_YV μ_CString_coder_X1 y_String_coder 0 := ⟨⟨ax_mem (by decide +kernel) rfl, ax_mem (by decide +kernel) rfl, by decide, by decide, by decide +kernel⟩, ax_mem (by decide +kernel) rfl, ax_mem (by decide +kernel) rfl⟩
def J_CString_coder_X1 (N : Nat) (σ : St) : Option (Int32 × St) :=
  some (0, σ)
set_option maxHeartbeats 1000000 in
theorem c_CString_coder_X1 {N : Nat} {g : ax_G} {σ : St} {r9 : Int32} {s9 : St} (hJ : J_CString_coder_X1 N σ = some (r9, s9)) : ax_CI μ_CString_coder_X1 g y_String_coder (wC g) [.ref (g.2.2.2 3)] σ (ax_eqI r9 s9) := by
  refine ax_CI.of (by decide +kernel) rfl (Nat.le_of_ble_eq_true rfl) (fun x A _ => ?_)
  show AW x μ_CString_coder_X1 g A (wC g) (0, 0) (ax_QI x μ_CString_coder_X1 g A (wC g) (ax_eqI r9 s9)) 0 [(0, .ref (g.2.2.2 3))] [] σ
  rw [J_CString_coder_X1] at hJ
  refine gs_COMPACT_STRINGS (n := 3) d_String_coder_0 rfl kf_String_38 ?_
  refine aw_if_eq (n := 6) (t := 13) d_String_coder_3 rfl (by decide) (fun c9 => absurd c9 (by decide)) (fun _ => ?_)
  refine aw_aload_n (n := 7) d_String_coder_6 rfl rfl 0 rfl ?_
  refine gx_coder_1 (n := 10) d_String_coder_7 rfl kf_String_15 ?_
  refine aw_goto (t := 14) d_String_coder_10 (by decide) ?_
  exact aw_zret d_String_coder_14 rfl rfl (ax_ret hJ)
abbrev b_String_length : ByteArray := prog_13_method_54_code
def y_String_length : MethodName := ⟨"java/lang/String", "length", "()I"⟩
theorem d_String_length_0 : decode b_String_length 0 = .ok (.aload_n 0, 1) := by decide +kernel
theorem d_String_length_1 : decode b_String_length 1 = .ok (.getfield 9, 3) := by decide +kernel
theorem d_String_length_4 : decode b_String_length 4 = .ok (.arraylength, 1) := by decide +kernel
theorem d_String_length_5 : decode b_String_length 5 = .ok (.aload_n 0, 1) := by decide +kernel
theorem d_String_length_6 : decode b_String_length 6 = .ok (.invokevirtual 335, 3) := by decide +kernel
theorem d_String_length_9 : decode b_String_length 9 = .ok (.ishr, 1) := by decide +kernel
theorem d_String_length_10 : decode b_String_length 10 = .ok (.ireturn, 1) := by decide +kernel
def μ_CString_length_X1 : ax_M := (b_String_length, 1, "java/lang/String", (some .int), 1, 20, 0, 0)
theorem Y_CString_length_X1 : ax_YV μ_CString_length_X1 y_String_length 0 := ⟨⟨ax_mem (by decide +kernel) rfl, ax_mem (by decide +kernel) rfl, by decide, by decide, by decide +kernel⟩, ax_mem (by decide +kernel) rfl, ax_mem (by decide +kernel) rfl⟩
theorem kf_String_9 : Cond.fieldLink "java/lang/String" 9 "java/lang/String" "value" "[B" ∈ ax_T := ax_mem (by decide +kernel) rfl
theorem km_String_335 : Cond.methodLink "java/lang/String" 335 ⟨"java/lang/String", "coder", "()B"⟩ ∈ ax_T := ax_mem (by decide +kernel) rfl
def J_CString_length_X1 (N : Nat) (σ : St) : Option (Int32 × St) :=
  ax_bind (J_CString_coder_X1 N σ) (fun r1 σ1 =>
  some ((15 >>> (r1 &&& 31)), σ1))
set_option maxHeartbeats 1000000 in
theorem c_CString_length_X1 {N : Nat} {g : ax_G} {σ : St} {r9 : Int32} {s9 : St} (hJ : J_CString_length_X1 N σ = some (r9, s9)) : ax_CI μ_CString_length_X1 g y_String_length (wC g) [.ref (g.2.2.2 3)] σ (ax_eqI r9 s9) := by
  refine ax_CI.of (by decide +kernel) rfl (Nat.le_of_ble_eq_true rfl) (fun x A _ => ?_)
  show AW x μ_CString_length_X1 g A (wC g) (0, 0) (ax_QI x μ_CString_length_X1 g A (wC g) (ax_eqI r9 s9)) 0 [(0, .ref (g.2.2.2 3))] [] σ
  rw [J_CString_length_X1] at hJ
  refine aw_aload_n (n := 1) d_String_length_0 rfl rfl 0 rfl ?_
  refine gx_value_1 (n := 4) d_String_length_1 rfl kf_String_9 ?_
  refine an_Y1 (n := 5) d_String_length_4 rfl ?_
  refine aw_aload_n (n := 6) d_String_length_5 rfl rfl 0 rfl ?_
  obtain ⟨r1, σ1, hc1, hJ⟩ := ax_bindE hJ
  refine aw_callXi (n := 9) (c_CString_coder_X1 hc1) rx_1 Y_CString_coder_X1 km_String_335 (by decide) (by decide) rfl rfl (Nat.le_of_ble_eq_true rfl) d_String_length_6 rfl (fun r9 s9 hp => ?_)
  obtain ⟨rfl, rfl⟩ := hp
  refine aw_ishr (n := 10) d_String_length_9 rfl ?_
  exact aw_iret d_String_length_10 rfl (ax_ret hJ)
abbrev b_Latin_canEncode : ByteArray := prog_14_method_4_code
def y_Latin_canEncode : MethodName := ⟨"java/lang/StringLatin1", "canEncode", "(I)Z"⟩
theorem d_Latin_canEncode_0 : decode b_Latin_canEncode 0 = .ok (.iload_n 0, 1) := by decide +kernel
theorem d_Latin_canEncode_1 : decode b_Latin_canEncode 1 = .ok (.ifCond .lt 14, 3) := by decide +kernel
theorem d_Latin_canEncode_4 : decode b_Latin_canEncode 4 = .ok (.iload_n 0, 1) := by decide +kernel
theorem d_Latin_canEncode_5 : decode b_Latin_canEncode 5 = .ok (.sipush 255, 3) := by decide +kernel
theorem d_Latin_canEncode_8 : decode b_Latin_canEncode 8 = .ok (.if_icmp .gt 7, 3) := by decide +kernel
theorem d_Latin_canEncode_11 : decode b_Latin_canEncode 11 = .ok (.iconst 1, 1) := by decide +kernel
theorem d_Latin_canEncode_12 : decode b_Latin_canEncode 12 = .ok (.goto 4, 3) := by decide +kernel
theorem d_Latin_canEncode_15 : decode b_Latin_canEncode 15 = .ok (.iconst 0, 1) := by decide +kernel
theorem d_Latin_canEncode_16 : decode b_Latin_canEncode 16 = .ok (.ireturn, 1) := by decide +kernel
def μ_CLatin_canEncode : ax_M := (b_Latin_canEncode, 1, "java/lang/StringLatin1", (some .boolean), 0, 0, 0, 0)
theorem Y_CLatin_canEncode : ax_YS μ_CLatin_canEncode y_Latin_canEncode 1 := ⟨⟨ax_mem (by decide +kernel) rfl, ax_mem (by decide +kernel) rfl, by decide, by decide, by decide +kernel⟩, ax_mem (by decide +kernel) rfl⟩
def J_CLatin_canEncode (N : Nat) (a0 : Int32) (σ : St) : Option (Int32 × St) :=
  (if a0 < 0 then
  some (0, σ)
  else (if 255 < a0 then
  some (0, σ)
  else some (1, σ)))
set_option maxHeartbeats 1000000 in
theorem c_CLatin_canEncode {N : Nat} {g : ax_G} {a0 : Int32} {σ : St} {r9 : Int32} {s9 : St} (hJ : J_CLatin_canEncode N a0 σ = some (r9, s9)) : ax_CI μ_CLatin_canEncode g y_Latin_canEncode (wC g) [.int a0] σ (ax_eqZ r9 s9) := by
  refine ax_CI.of (by decide +kernel) rfl (Nat.le_of_ble_eq_true rfl) (fun x A _ => ?_)
  show AW x μ_CLatin_canEncode g A (wC g) (0, 0) (ax_QI x μ_CLatin_canEncode g A (wC g) (ax_eqZ r9 s9)) 0 [(0, .int a0)] [] σ
  rw [J_CLatin_canEncode] at hJ
  refine aw_iload_n (n := 1) d_Latin_canEncode_0 rfl rfl 0 rfl ?_
  refine aw_if_lt (n := 4) (t := 15) d_Latin_canEncode_1 rfl (by decide) (fun c1 => ?_) (fun c1 => ?_)
  · rw [if_pos c1] at hJ
    refine aw_iconst (n := 16) (v := 0) d_Latin_canEncode_15 rfl (by decide) ?_
    exact aw_zret d_Latin_canEncode_16 rfl rfl (ax_retZ hJ rfl)
  · rw [if_neg c1] at hJ
    refine aw_iload_n (n := 5) d_Latin_canEncode_4 rfl rfl 0 rfl ?_
    refine aw_sipush (n := 8) (v := 255) d_Latin_canEncode_5 rfl (by decide) ?_
    refine aw_icmp_gt (n := 11) (t := 15) d_Latin_canEncode_8 rfl (by decide) (fun c2 => ?_) (fun c2 => ?_)
    · rw [if_pos c2] at hJ
      refine aw_iconst (n := 16) (v := 0) d_Latin_canEncode_15 rfl (by decide) ?_
      exact aw_zret d_Latin_canEncode_16 rfl rfl (ax_retZ hJ rfl)
    · rw [if_neg c2] at hJ
      refine aw_iconst (n := 12) (v := 1) d_Latin_canEncode_11 rfl (by decide) ?_
      refine aw_goto (t := 16) d_Latin_canEncode_12 (by decide) ?_
      exact aw_zret d_Latin_canEncode_16 rfl rfl (ax_retZ hJ rfl)
abbrev b_Math_max : ByteArray := prog_12_method_65_code
def y_Math_max : MethodName := ⟨"java/lang/Math", "max", "(II)I"⟩
theorem d_Math_max_0 : decode b_Math_max 0 = .ok (.iload_n 0, 1) := by decide +kernel
theorem d_Math_max_1 : decode b_Math_max 1 = .ok (.iload_n 1, 1) := by decide +kernel
theorem d_Math_max_2 : decode b_Math_max 2 = .ok (.if_icmp .lt 7, 3) := by decide +kernel
theorem d_Math_max_5 : decode b_Math_max 5 = .ok (.iload_n 0, 1) := by decide +kernel
theorem d_Math_max_6 : decode b_Math_max 6 = .ok (.goto 4, 3) := by decide +kernel
theorem d_Math_max_9 : decode b_Math_max 9 = .ok (.iload_n 1, 1) := by decide +kernel
theorem d_Math_max_10 : decode b_Math_max 10 = .ok (.ireturn, 1) := by decide +kernel
def μ_CMath_max : ax_M := (b_Math_max, 2, "java/lang/Math", (some .int), 0, 0, 0, 0)
theorem Y_CMath_max : ax_YS μ_CMath_max y_Math_max 2 := ⟨⟨ax_mem (by decide +kernel) rfl, ax_mem (by decide +kernel) rfl, by decide, by decide, by decide +kernel⟩, ax_mem (by decide +kernel) rfl⟩
def J_CMath_max (N : Nat) (a0 : Int32) (a1 : Int32) (σ : St) : Option (Int32 × St) :=
  (if a0 < a1 then
  some (a1, σ)
  else some (a0, σ))
set_option maxHeartbeats 1000000 in
theorem c_CMath_max {N : Nat} {g : ax_G} {a0 : Int32} {a1 : Int32} {σ : St} {r9 : Int32} {s9 : St} (hJ : J_CMath_max N a0 a1 σ = some (r9, s9)) : ax_CI μ_CMath_max g y_Math_max (wC g) [.int a0, .int a1] σ (ax_eqI r9 s9) := by
  refine ax_CI.of (by decide +kernel) rfl (Nat.le_of_ble_eq_true rfl) (fun x A _ => ?_)
  show AW x μ_CMath_max g A (wC g) (0, 0) (ax_QI x μ_CMath_max g A (wC g) (ax_eqI r9 s9)) 0 [(0, .int a0), (1, .int a1)] [] σ
  rw [J_CMath_max] at hJ
  refine aw_iload_n (n := 1) d_Math_max_0 rfl rfl 0 rfl ?_
  refine aw_iload_n (n := 2) d_Math_max_1 rfl rfl 1 rfl ?_
  refine aw_icmp_lt (n := 5) (t := 9) d_Math_max_2 rfl (by decide) (fun c1 => ?_) (fun c1 => ?_)
  · rw [if_pos c1] at hJ
    refine aw_iload_n (n := 10) d_Math_max_9 rfl rfl 1 rfl ?_
    exact aw_iret d_Math_max_10 rfl (ax_ret hJ)
  · rw [if_neg c1] at hJ
    refine aw_iload_n (n := 6) d_Math_max_5 rfl rfl 0 rfl ?_
    refine aw_goto (t := 10) d_Math_max_6 (by decide) ?_
    exact aw_iret d_Math_max_10 rfl (ax_ret hJ)
abbrev b_Math_min : ByteArray := prog_12_method_69_code
def y_Math_min : MethodName := ⟨"java/lang/Math", "min", "(II)I"⟩
theorem d_Math_min_0 : decode b_Math_min 0 = .ok (.iload_n 0, 1) := by decide +kernel
theorem d_Math_min_1 : decode b_Math_min 1 = .ok (.iload_n 1, 1) := by decide +kernel
theorem d_Math_min_2 : decode b_Math_min 2 = .ok (.if_icmp .gt 7, 3) := by decide +kernel
theorem d_Math_min_5 : decode b_Math_min 5 = .ok (.iload_n 0, 1) := by decide +kernel
theorem d_Math_min_6 : decode b_Math_min 6 = .ok (.goto 4, 3) := by decide +kernel
theorem d_Math_min_9 : decode b_Math_min 9 = .ok (.iload_n 1, 1) := by decide +kernel
theorem d_Math_min_10 : decode b_Math_min 10 = .ok (.ireturn, 1) := by decide +kernel
def μ_CMath_min : ax_M := (b_Math_min, 2, "java/lang/Math", (some .int), 0, 0, 0, 0)
theorem Y_CMath_min : ax_YS μ_CMath_min y_Math_min 2 := ⟨⟨ax_mem (by decide +kernel) rfl, ax_mem (by decide +kernel) rfl, by decide, by decide, by decide +kernel⟩, ax_mem (by decide +kernel) rfl⟩
def J_CMath_min (N : Nat) (a0 : Int32) (a1 : Int32) (σ : St) : Option (Int32 × St) :=
  (if a1 < a0 then
  some (a1, σ)
  else some (a0, σ))
set_option maxHeartbeats 1000000 in
theorem c_CMath_min {N : Nat} {g : ax_G} {a0 : Int32} {a1 : Int32} {σ : St} {r9 : Int32} {s9 : St} (hJ : J_CMath_min N a0 a1 σ = some (r9, s9)) : ax_CI μ_CMath_min g y_Math_min (wC g) [.int a0, .int a1] σ (ax_eqI r9 s9) := by
  refine ax_CI.of (by decide +kernel) rfl (Nat.le_of_ble_eq_true rfl) (fun x A _ => ?_)
  show AW x μ_CMath_min g A (wC g) (0, 0) (ax_QI x μ_CMath_min g A (wC g) (ax_eqI r9 s9)) 0 [(0, .int a0), (1, .int a1)] [] σ
  rw [J_CMath_min] at hJ
  refine aw_iload_n (n := 1) d_Math_min_0 rfl rfl 0 rfl ?_
  refine aw_iload_n (n := 2) d_Math_min_1 rfl rfl 1 rfl ?_
  refine aw_icmp_gt (n := 5) (t := 9) d_Math_min_2 rfl (by decide) (fun c1 => ?_) (fun c1 => ?_)
  · rw [if_pos c1] at hJ
    refine aw_iload_n (n := 10) d_Math_min_9 rfl rfl 1 rfl ?_
    exact aw_iret d_Math_min_10 rfl (ax_ret hJ)
  · rw [if_neg c1] at hJ
    refine aw_iload_n (n := 6) d_Math_min_5 rfl rfl 0 rfl ?_
    refine aw_goto (t := 10) d_Math_min_6 (by decide) ?_
    exact aw_iret d_Math_min_10 rfl (ax_ret hJ)
abbrev b_Latin_indexOfChar : ByteArray := prog_14_method_23_code
def y_Latin_indexOfChar : MethodName := ⟨"java/lang/StringLatin1", "indexOfChar", "([BIII)I"⟩
theorem d_Latin_indexOfChar_0 : decode b_Latin_indexOfChar 0 = .ok (.iload_n 1, 1) := by decide +kernel
theorem d_Latin_indexOfChar_1 : decode b_Latin_indexOfChar 1 = .ok (.i2b, 1) := by decide +kernel
theorem d_Latin_indexOfChar_2 : decode b_Latin_indexOfChar 2 = .ok (.istore 4, 2) := by decide +kernel
theorem d_Latin_indexOfChar_4 : decode b_Latin_indexOfChar 4 = .ok (.iload_n 2, 1) := by decide +kernel
theorem d_Latin_indexOfChar_5 : decode b_Latin_indexOfChar 5 = .ok (.istore 5, 2) := by decide +kernel
theorem d_Latin_indexOfChar_7 : decode b_Latin_indexOfChar 7 = .ok (.iload 5, 2) := by decide +kernel
theorem d_Latin_indexOfChar_9 : decode b_Latin_indexOfChar 9 = .ok (.iload_n 3, 1) := by decide +kernel
theorem d_Latin_indexOfChar_10 : decode b_Latin_indexOfChar 10 = .ok (.if_icmp .ge 21, 3) := by decide +kernel
theorem d_Latin_indexOfChar_13 : decode b_Latin_indexOfChar 13 = .ok (.aload_n 0, 1) := by decide +kernel
theorem d_Latin_indexOfChar_14 : decode b_Latin_indexOfChar 14 = .ok (.iload 5, 2) := by decide +kernel
theorem d_Latin_indexOfChar_16 : decode b_Latin_indexOfChar 16 = .ok (.baload, 1) := by decide +kernel
theorem d_Latin_indexOfChar_17 : decode b_Latin_indexOfChar 17 = .ok (.iload 4, 2) := by decide +kernel
theorem d_Latin_indexOfChar_19 : decode b_Latin_indexOfChar 19 = .ok (.if_icmp .ne 6, 3) := by decide +kernel
theorem d_Latin_indexOfChar_22 : decode b_Latin_indexOfChar 22 = .ok (.iload 5, 2) := by decide +kernel
theorem d_Latin_indexOfChar_24 : decode b_Latin_indexOfChar 24 = .ok (.ireturn, 1) := by decide +kernel
theorem d_Latin_indexOfChar_25 : decode b_Latin_indexOfChar 25 = .ok (.iinc 5 1, 3) := by decide +kernel
theorem d_Latin_indexOfChar_28 : decode b_Latin_indexOfChar 28 = .ok (.goto (-21), 3) := by decide +kernel
theorem d_Latin_indexOfChar_31 : decode b_Latin_indexOfChar 31 = .ok (.iconst (-1), 1) := by decide +kernel
theorem d_Latin_indexOfChar_32 : decode b_Latin_indexOfChar 32 = .ok (.ireturn, 1) := by decide +kernel
def μ_CLatin_indexOfChar_Y1 : ax_M := (b_Latin_indexOfChar, 6, "java/lang/StringLatin1", (some .int), 0, 0, 0, 0)
theorem Y_CLatin_indexOfChar_Y1 : ax_YS μ_CLatin_indexOfChar_Y1 y_Latin_indexOfChar 4 := ⟨⟨ax_mem (by decide +kernel) rfl, ax_mem (by decide +kernel) rfl, by decide, by decide, by decide +kernel⟩, ax_mem (by decide +kernel) rfl⟩
def J_CLatin_indexOfChar_Y1_7 (N : Nat) : Nat → Int32 → Int32 → Int32 → St → Option (Int32 × St)
  | 0, _, _, _, _ => none
  | n + 1, l3, l4, l5, σ => (if l3 ≤ l5 then
  some ((-1), σ)
  else (if (inB l5 15) = true then (if (tSIGNS l5.toNatClampNeg) = l4 then
  some (l5, σ)
  else ax_let ((l5 + 1) : Int32) (fun v2 =>
  J_CLatin_indexOfChar_Y1_7 N n l3 l4 v2 σ)) else none))
def J_CLatin_indexOfChar_Y1 (N : Nat) (a1 : Int32) (a2 : Int32) (a3 : Int32) (σ : St) : Option (Int32 × St) :=
  ax_let ((a1.toInt8.toInt32) : Int32) (fun v1 =>
  J_CLatin_indexOfChar_Y1_7 N N a3 v1 a2 σ)
set_option maxHeartbeats 1000000 in
theorem t_CLatin_indexOfChar_Y1_7 {N : Nat} {g : ax_G} {r9 : Int32} {s9 : St} (x : ax_X) (A : Nat → Prop) : ∀ (n : Nat) (l3 : Int32) (l4 : Int32) (l5 : Int32) (σ : St), J_CLatin_indexOfChar_Y1_7 N n l3 l4 l5 σ = some (r9, s9) → AW x μ_CLatin_indexOfChar_Y1 g A (wC g) (0, 0) (ax_QI x μ_CLatin_indexOfChar_Y1 g A (wC g) (ax_eqI r9 s9)) 7 [(0, .ref (g.2.2.2 5)), (3, .int l3), (4, .int l4), (5, .int l5)] [] σ := by
  intro n
  induction n with
  | zero => intro l3 l4 l5 σ hJ; rw [J_CLatin_indexOfChar_Y1_7] at hJ; cases hJ
  | succ n ih =>
    intro l3 l4 l5 σ hJ
    rw [J_CLatin_indexOfChar_Y1_7] at hJ
    refine aw_iload (n := 9) d_Latin_indexOfChar_7 rfl 3 rfl ?_
    refine aw_iload_n (n := 10) d_Latin_indexOfChar_9 rfl rfl 1 rfl ?_
    refine aw_icmp_ge (n := 13) (t := 31) d_Latin_indexOfChar_10 rfl (by decide) (fun c1 => ?_) (fun c1 => ?_)
    · rw [if_pos c1] at hJ
      refine aw_iconst (n := 32) (v := -1) d_Latin_indexOfChar_31 rfl (by decide) ?_
      exact aw_iret d_Latin_indexOfChar_32 rfl (ax_ret hJ)
    · rw [if_neg c1] at hJ
      refine aw_aload_n (n := 14) d_Latin_indexOfChar_13 rfl rfl 0 rfl ?_
      refine aw_iload (n := 16) d_Latin_indexOfChar_14 rfl 3 rfl ?_
      obtain ⟨h1, hJ⟩ := ax_need hJ
      refine al_Y1 (n := 17) d_Latin_indexOfChar_16 rfl h1 ?_
      refine aw_iload (n := 19) d_Latin_indexOfChar_17 rfl 2 rfl ?_
      refine aw_icmp_ne (n := 22) (t := 25) d_Latin_indexOfChar_19 rfl (by decide) (fun c2 => ?_) (fun c2 => ?_)
      · rw [if_neg c2] at hJ
        obtain ⟨v2, ev2, hJ⟩ := ax_letE hJ
        refine aw_iinc (n := 28) (j := 3) (v := v2) d_Latin_indexOfChar_25 rfl rfl (ev2) (by decide) rfl ?_
        refine aw_goto (t := 7) d_Latin_indexOfChar_28 (by decide) ?_
        refine aw_sub [1, 2, 3, 0] rfl ?_
        exact ih _ _ _ _ hJ
      · rw [if_pos c2] at hJ
        refine aw_iload (n := 24) d_Latin_indexOfChar_22 rfl 3 rfl ?_
        exact aw_iret d_Latin_indexOfChar_24 rfl (ax_ret hJ)
set_option maxHeartbeats 1000000 in
theorem c_CLatin_indexOfChar_Y1 {N : Nat} {g : ax_G} {a1 : Int32} {a2 : Int32} {a3 : Int32} {σ : St} {r9 : Int32} {s9 : St} (hJ : J_CLatin_indexOfChar_Y1 N a1 a2 a3 σ = some (r9, s9)) : ax_CI μ_CLatin_indexOfChar_Y1 g y_Latin_indexOfChar (wC g) [.ref (g.2.2.2 5), .int a1, .int a2, .int a3] σ (ax_eqI r9 s9) := by
  refine ax_CI.of (by decide +kernel) rfl (Nat.le_of_ble_eq_true rfl) (fun x A _ => ?_)
  show AW x μ_CLatin_indexOfChar_Y1 g A (wC g) (0, 0) (ax_QI x μ_CLatin_indexOfChar_Y1 g A (wC g) (ax_eqI r9 s9)) 0 [(0, .ref (g.2.2.2 5)), (1, .int a1), (2, .int a2), (3, .int a3)] [] σ
  rw [J_CLatin_indexOfChar_Y1] at hJ
  refine aw_iload_n (n := 1) d_Latin_indexOfChar_0 rfl rfl 1 rfl ?_
  refine aw_i2b (n := 2) d_Latin_indexOfChar_1 rfl rfl ?_
  obtain ⟨v1, ev1, hJ⟩ := ax_letE hJ
  refine aw_top ev1 ?_
  refine aw_istore (n := 4) d_Latin_indexOfChar_2 rfl (by decide) rfl ?_
  refine aw_iload_n (n := 5) d_Latin_indexOfChar_4 rfl rfl 3 rfl ?_
  refine aw_istore (n := 7) d_Latin_indexOfChar_5 rfl (by decide) rfl ?_
  refine aw_sub [2, 5, 1, 0] rfl ?_
  exact t_CLatin_indexOfChar_Y1_7 x A N _ _ _ _ hJ
abbrev b_Latin_indexOf : ByteArray := prog_14_method_22_code
def y_Latin_indexOf : MethodName := ⟨"java/lang/StringLatin1", "indexOf", "([BIII)I"⟩
theorem d_Latin_indexOf_0 : decode b_Latin_indexOf 0 = .ok (.iload_n 1, 1) := by decide +kernel
theorem d_Latin_indexOf_1 : decode b_Latin_indexOf 1 = .ok (.invokestatic 88, 3) := by decide +kernel
theorem d_Latin_indexOf_4 : decode b_Latin_indexOf 4 = .ok (.ifCond .ne 5, 3) := by decide +kernel
theorem d_Latin_indexOf_7 : decode b_Latin_indexOf 7 = .ok (.iconst (-1), 1) := by decide +kernel
theorem d_Latin_indexOf_8 : decode b_Latin_indexOf 8 = .ok (.ireturn, 1) := by decide +kernel
theorem d_Latin_indexOf_9 : decode b_Latin_indexOf 9 = .ok (.iload_n 2, 1) := by decide +kernel
theorem d_Latin_indexOf_10 : decode b_Latin_indexOf 10 = .ok (.iconst 0, 1) := by decide +kernel
theorem d_Latin_indexOf_11 : decode b_Latin_indexOf 11 = .ok (.invokestatic 92, 3) := by decide +kernel
theorem d_Latin_indexOf_14 : decode b_Latin_indexOf 14 = .ok (.istore_n 2, 1) := by decide +kernel
theorem d_Latin_indexOf_15 : decode b_Latin_indexOf 15 = .ok (.iload_n 3, 1) := by decide +kernel
theorem d_Latin_indexOf_16 : decode b_Latin_indexOf 16 = .ok (.aload_n 0, 1) := by decide +kernel
theorem d_Latin_indexOf_17 : decode b_Latin_indexOf 17 = .ok (.arraylength, 1) := by decide +kernel
theorem d_Latin_indexOf_18 : decode b_Latin_indexOf 18 = .ok (.invokestatic 38, 3) := by decide +kernel
theorem d_Latin_indexOf_21 : decode b_Latin_indexOf 21 = .ok (.istore_n 3, 1) := by decide +kernel
theorem d_Latin_indexOf_22 : decode b_Latin_indexOf 22 = .ok (.iload_n 2, 1) := by decide +kernel
theorem d_Latin_indexOf_23 : decode b_Latin_indexOf 23 = .ok (.iload_n 3, 1) := by decide +kernel
theorem d_Latin_indexOf_24 : decode b_Latin_indexOf 24 = .ok (.if_icmp .lt 5, 3) := by decide +kernel
theorem d_Latin_indexOf_27 : decode b_Latin_indexOf 27 = .ok (.iconst (-1), 1) := by decide +kernel
theorem d_Latin_indexOf_28 : decode b_Latin_indexOf 28 = .ok (.ireturn, 1) := by decide +kernel
theorem d_Latin_indexOf_29 : decode b_Latin_indexOf 29 = .ok (.aload_n 0, 1) := by decide +kernel
theorem d_Latin_indexOf_30 : decode b_Latin_indexOf 30 = .ok (.iload_n 1, 1) := by decide +kernel
theorem d_Latin_indexOf_31 : decode b_Latin_indexOf 31 = .ok (.iload_n 2, 1) := by decide +kernel
theorem d_Latin_indexOf_32 : decode b_Latin_indexOf 32 = .ok (.iload_n 3, 1) := by decide +kernel
theorem d_Latin_indexOf_33 : decode b_Latin_indexOf 33 = .ok (.invokestatic 95, 3) := by decide +kernel
theorem d_Latin_indexOf_36 : decode b_Latin_indexOf 36 = .ok (.ireturn, 1) := by decide +kernel
def μ_CLatin_indexOf_Y1 : ax_M := (b_Latin_indexOf, 4, "java/lang/StringLatin1", (some .int), 1, 25, 0, 0)
theorem Y_CLatin_indexOf_Y1 : ax_YS μ_CLatin_indexOf_Y1 y_Latin_indexOf 4 := ⟨⟨ax_mem (by decide +kernel) rfl, ax_mem (by decide +kernel) rfl, by decide, by decide, by decide +kernel⟩, ax_mem (by decide +kernel) rfl⟩
theorem km_Latin_88 : Cond.methodLink "java/lang/StringLatin1" 88 ⟨"java/lang/StringLatin1", "canEncode", "(I)Z"⟩ ∈ ax_T := ax_mem (by decide +kernel) rfl
theorem km_Latin_92 : Cond.methodLink "java/lang/StringLatin1" 92 ⟨"java/lang/Math", "max", "(II)I"⟩ ∈ ax_T := ax_mem (by decide +kernel) rfl
theorem km_Latin_38 : Cond.methodLink "java/lang/StringLatin1" 38 ⟨"java/lang/Math", "min", "(II)I"⟩ ∈ ax_T := ax_mem (by decide +kernel) rfl
theorem km_Latin_95 : Cond.methodLink "java/lang/StringLatin1" 95 ⟨"java/lang/StringLatin1", "indexOfChar", "([BIII)I"⟩ ∈ ax_T := ax_mem (by decide +kernel) rfl
def J_CLatin_indexOf_Y1 (N : Nat) (a1 : Int32) (a2 : Int32) (a3 : Int32) (σ : St) : Option (Int32 × St) :=
  ax_bind (J_CLatin_canEncode N a1 σ) (fun r1 σ1 =>
  (if r1 = 0 then
  some ((-1), σ1)
  else ax_bind (J_CMath_max N a2 0 σ1) (fun r2 σ2 =>
  ax_bind (J_CMath_min N a3 15 σ2) (fun r3 σ3 =>
  (if r2 < r3 then
  ax_bind (J_CLatin_indexOfChar_Y1 N a1 r2 r3 σ3) (fun r4 σ4 =>
  some (r4, σ4))
  else some ((-1), σ3))))))
set_option maxHeartbeats 1000000 in
theorem c_CLatin_indexOf_Y1 {N : Nat} {g : ax_G} {a1 : Int32} {a2 : Int32} {a3 : Int32} {σ : St} {r9 : Int32} {s9 : St} (hJ : J_CLatin_indexOf_Y1 N a1 a2 a3 σ = some (r9, s9)) : ax_CI μ_CLatin_indexOf_Y1 g y_Latin_indexOf (wC g) [.ref (g.2.2.2 5), .int a1, .int a2, .int a3] σ (ax_eqI r9 s9) := by
  refine ax_CI.of (by decide +kernel) rfl (Nat.le_of_ble_eq_true rfl) (fun x A _ => ?_)
  show AW x μ_CLatin_indexOf_Y1 g A (wC g) (0, 0) (ax_QI x μ_CLatin_indexOf_Y1 g A (wC g) (ax_eqI r9 s9)) 0 [(0, .ref (g.2.2.2 5)), (1, .int a1), (2, .int a2), (3, .int a3)] [] σ
  rw [J_CLatin_indexOf_Y1] at hJ
  refine aw_iload_n (n := 1) d_Latin_indexOf_0 rfl rfl 1 rfl ?_
  obtain ⟨r1, σ1, hc1, hJ⟩ := ax_bindE hJ
  refine aw_callSi (n := 4) (c_CLatin_canEncode hc1) Y_CLatin_canEncode km_Latin_88 (by decide) (by decide) rfl rfl (Nat.le_of_ble_eq_true rfl) d_Latin_indexOf_1 rfl (fun r9 s9 hp => ?_)
  obtain ⟨rfl, rfl, hb1⟩ := hp
  refine aw_if_ne (n := 7) (t := 9) d_Latin_indexOf_4 rfl (by decide) (fun c1 => ?_) (fun c1 => ?_)
  · rw [if_neg c1] at hJ
    refine aw_iload_n (n := 10) d_Latin_indexOf_9 rfl rfl 2 rfl ?_
    refine aw_iconst (n := 11) (v := 0) d_Latin_indexOf_10 rfl (by decide) ?_
    obtain ⟨r2, σ2, hc2, hJ⟩ := ax_bindE hJ
    refine aw_callSi (n := 14) (c_CMath_max hc2) Y_CMath_max km_Latin_92 (by decide) (by decide) rfl rfl (Nat.le_of_ble_eq_true rfl) d_Latin_indexOf_11 rfl (fun r9 s9 hp => ?_)
    obtain ⟨rfl, rfl⟩ := hp
    refine aw_istore_n (n := 15) d_Latin_indexOf_14 rfl rfl (by decide) rfl ?_
    refine aw_iload_n (n := 16) d_Latin_indexOf_15 rfl rfl 3 rfl ?_
    refine aw_aload_n (n := 17) d_Latin_indexOf_16 rfl rfl 1 rfl ?_
    refine an_Y1 (n := 18) d_Latin_indexOf_17 rfl ?_
    obtain ⟨r3, σ3, hc3, hJ⟩ := ax_bindE hJ
    refine aw_callSi (n := 21) (c_CMath_min hc3) Y_CMath_min km_Latin_38 (by decide) (by decide) rfl rfl (Nat.le_of_ble_eq_true rfl) d_Latin_indexOf_18 rfl (fun r9 s9 hp => ?_)
    obtain ⟨rfl, rfl⟩ := hp
    refine aw_istore_n (n := 22) d_Latin_indexOf_21 rfl rfl (by decide) rfl ?_
    refine aw_iload_n (n := 23) d_Latin_indexOf_22 rfl rfl 1 rfl ?_
    refine aw_iload_n (n := 24) d_Latin_indexOf_23 rfl rfl 0 rfl ?_
    refine aw_icmp_lt (n := 27) (t := 29) d_Latin_indexOf_24 rfl (by decide) (fun c2 => ?_) (fun c2 => ?_)
    · rw [if_pos c2] at hJ
      refine aw_aload_n (n := 30) d_Latin_indexOf_29 rfl rfl 2 rfl ?_
      refine aw_iload_n (n := 31) d_Latin_indexOf_30 rfl rfl 3 rfl ?_
      refine aw_iload_n (n := 32) d_Latin_indexOf_31 rfl rfl 1 rfl ?_
      refine aw_iload_n (n := 33) d_Latin_indexOf_32 rfl rfl 0 rfl ?_
      obtain ⟨r4, σ4, hc4, hJ⟩ := ax_bindE hJ
      refine aw_callSi (n := 36) (c_CLatin_indexOfChar_Y1 hc4) Y_CLatin_indexOfChar_Y1 km_Latin_95 (by decide) (by decide) rfl rfl (Nat.le_of_ble_eq_true rfl) d_Latin_indexOf_33 rfl (fun r9 s9 hp => ?_)
      obtain ⟨rfl, rfl⟩ := hp
      exact aw_iret d_Latin_indexOf_36 rfl (ax_ret hJ)
    · rw [if_neg c2] at hJ
      refine aw_iconst (n := 28) (v := -1) d_Latin_indexOf_27 rfl (by decide) ?_
      exact aw_iret d_Latin_indexOf_28 rfl (ax_ret hJ)
  · rw [if_pos c1] at hJ
    refine aw_iconst (n := 8) (v := -1) d_Latin_indexOf_7 rfl (by decide) ?_
    exact aw_iret d_Latin_indexOf_8 rfl (ax_ret hJ)
abbrev b_String_indexOf_1 : ByteArray := prog_13_method_80_code
def y_String_indexOf_1 : MethodName := ⟨"java/lang/String", "indexOf", "(II)I"⟩
theorem d_String_indexOf_1_0 : decode b_String_indexOf_1 0 = .ok (.aload_n 0, 1) := by decide +kernel
theorem d_String_indexOf_1_1 : decode b_String_indexOf_1 1 = .ok (.invokevirtual 492, 3) := by decide +kernel
theorem d_String_indexOf_1_4 : decode b_String_indexOf_1 4 = .ok (.ifCond .eq 19, 3) := by decide +kernel
theorem d_String_indexOf_1_7 : decode b_String_indexOf_1 7 = .ok (.aload_n 0, 1) := by decide +kernel
theorem d_String_indexOf_1_8 : decode b_String_indexOf_1 8 = .ok (.getfield 9, 3) := by decide +kernel
theorem d_String_indexOf_1_11 : decode b_String_indexOf_1 11 = .ok (.iload_n 1, 1) := by decide +kernel
theorem d_String_indexOf_1_12 : decode b_String_indexOf_1 12 = .ok (.iload_n 2, 1) := by decide +kernel
theorem d_String_indexOf_1_13 : decode b_String_indexOf_1 13 = .ok (.aload_n 0, 1) := by decide +kernel
theorem d_String_indexOf_1_14 : decode b_String_indexOf_1 14 = .ok (.invokevirtual 505, 3) := by decide +kernel
theorem d_String_indexOf_1_17 : decode b_String_indexOf_1 17 = .ok (.invokestatic 637, 3) := by decide +kernel
theorem d_String_indexOf_1_20 : decode b_String_indexOf_1 20 = .ok (.goto 16, 3) := by decide +kernel
theorem d_String_indexOf_1_23 : decode b_String_indexOf_1 23 = .ok (.aload_n 0, 1) := by decide +kernel
theorem d_String_indexOf_1_24 : decode b_String_indexOf_1 24 = .ok (.getfield 9, 3) := by decide +kernel
theorem d_String_indexOf_1_27 : decode b_String_indexOf_1 27 = .ok (.iload_n 1, 1) := by decide +kernel
theorem d_String_indexOf_1_28 : decode b_String_indexOf_1 28 = .ok (.iload_n 2, 1) := by decide +kernel
theorem d_String_indexOf_1_29 : decode b_String_indexOf_1 29 = .ok (.aload_n 0, 1) := by decide +kernel
theorem d_String_indexOf_1_30 : decode b_String_indexOf_1 30 = .ok (.invokevirtual 505, 3) := by decide +kernel
theorem d_String_indexOf_1_33 : decode b_String_indexOf_1 33 = .ok (.invokestatic 640, 3) := by decide +kernel
theorem d_String_indexOf_1_36 : decode b_String_indexOf_1 36 = .ok (.ireturn, 1) := by decide +kernel
def μ_CString_indexOf_1_X1 : ax_M := (b_String_indexOf_1, 3, "java/lang/String", (some .int), 2, 48, 0, 0)
theorem Y_CString_indexOf_1_X1 : ax_YV μ_CString_indexOf_1_X1 y_String_indexOf_1 2 := ⟨⟨ax_mem (by decide +kernel) rfl, ax_mem (by decide +kernel) rfl, by decide, by decide, by decide +kernel⟩, ax_mem (by decide +kernel) rfl, ax_mem (by decide +kernel) rfl⟩
theorem km_String_492 : Cond.methodLink "java/lang/String" 492 ⟨"java/lang/String", "isLatin1", "()Z"⟩ ∈ ax_T := ax_mem (by decide +kernel) rfl
theorem km_String_505 : Cond.methodLink "java/lang/String" 505 ⟨"java/lang/String", "length", "()I"⟩ ∈ ax_T := ax_mem (by decide +kernel) rfl
theorem km_String_637 : Cond.methodLink "java/lang/String" 637 ⟨"java/lang/StringLatin1", "indexOf", "([BIII)I"⟩ ∈ ax_T := ax_mem (by decide +kernel) rfl
def J_CString_indexOf_1_X1 (N : Nat) (a1 : Int32) (a2 : Int32) (σ : St) : Option (Int32 × St) :=
  ax_bind (J_CString_isLatin1_X1 N σ) (fun r1 σ1 =>
  (if (decide (r1 = 1)) = true then ax_bind (J_CString_length_X1 N σ1) (fun r2 σ2 =>
  ax_bind (J_CLatin_indexOf_Y1 N a1 a2 r2 σ2) (fun r3 σ3 =>
  some (r3, σ3))) else none))
set_option maxHeartbeats 1000000 in
theorem c_CString_indexOf_1_X1 {N : Nat} {g : ax_G} {a1 : Int32} {a2 : Int32} {σ : St} {r9 : Int32} {s9 : St} (hJ : J_CString_indexOf_1_X1 N a1 a2 σ = some (r9, s9)) : ax_CI μ_CString_indexOf_1_X1 g y_String_indexOf_1 (wC g) [.ref (g.2.2.2 3), .int a1, .int a2] σ (ax_eqI r9 s9) := by
  refine ax_CI.of (by decide +kernel) rfl (Nat.le_of_ble_eq_true rfl) (fun x A _ => ?_)
  show AW x μ_CString_indexOf_1_X1 g A (wC g) (0, 0) (ax_QI x μ_CString_indexOf_1_X1 g A (wC g) (ax_eqI r9 s9)) 0 [(0, .ref (g.2.2.2 3)), (1, .int a1), (2, .int a2)] [] σ
  rw [J_CString_indexOf_1_X1] at hJ
  refine aw_aload_n (n := 1) d_String_indexOf_1_0 rfl rfl 0 rfl ?_
  obtain ⟨r1, σ1, hc1, hJ⟩ := ax_bindE hJ
  refine aw_callXi (n := 4) (c_CString_isLatin1_X1 hc1) rx_1 Y_CString_isLatin1_X1 km_String_492 (by decide) (by decide) rfl rfl (Nat.le_of_ble_eq_true rfl) d_String_indexOf_1_1 rfl (fun r9 s9 hp => ?_)
  obtain ⟨rfl, rfl, hb1⟩ := hp
  obtain ⟨h1, hJ⟩ := ax_need hJ
  refine aw_top (of_decide_eq_true h1) ?_
  refine aw_if_eq (n := 7) (t := 23) d_String_indexOf_1_4 rfl (by decide) (fun c9 => absurd c9 (by decide)) (fun _ => ?_)
  refine aw_aload_n (n := 8) d_String_indexOf_1_7 rfl rfl 0 rfl ?_
  refine gx_value_1 (n := 11) d_String_indexOf_1_8 rfl kf_String_9 ?_
  refine aw_iload_n (n := 12) d_String_indexOf_1_11 rfl rfl 1 rfl ?_
  refine aw_iload_n (n := 13) d_String_indexOf_1_12 rfl rfl 2 rfl ?_
  refine aw_aload_n (n := 14) d_String_indexOf_1_13 rfl rfl 0 rfl ?_
  obtain ⟨r2, σ2, hc2, hJ⟩ := ax_bindE hJ
  refine aw_callXi (n := 17) (c_CString_length_X1 hc2) rx_1 Y_CString_length_X1 km_String_505 (by decide) (by decide) rfl rfl (Nat.le_of_ble_eq_true rfl) d_String_indexOf_1_14 rfl (fun r9 s9 hp => ?_)
  obtain ⟨rfl, rfl⟩ := hp
  obtain ⟨r3, σ3, hc3, hJ⟩ := ax_bindE hJ
  refine aw_callSi (n := 20) (c_CLatin_indexOf_Y1 hc3) Y_CLatin_indexOf_Y1 km_String_637 (by decide) (by decide) rfl rfl (Nat.le_of_ble_eq_true rfl) d_String_indexOf_1_17 rfl (fun r9 s9 hp => ?_)
  obtain ⟨rfl, rfl⟩ := hp
  refine aw_goto (t := 36) d_String_indexOf_1_20 (by decide) ?_
  exact aw_iret d_String_indexOf_1_36 rfl (ax_ret hJ)
abbrev b_String_indexOf_0 : ByteArray := prog_13_method_79_code
def y_String_indexOf_0 : MethodName := ⟨"java/lang/String", "indexOf", "(I)I"⟩
theorem d_String_indexOf_0_0 : decode b_String_indexOf_0 0 = .ok (.aload_n 0, 1) := by decide +kernel
theorem d_String_indexOf_0_1 : decode b_String_indexOf_0 1 = .ok (.iload_n 1, 1) := by decide +kernel
theorem d_String_indexOf_0_2 : decode b_String_indexOf_0 2 = .ok (.iconst 0, 1) := by decide +kernel
theorem d_String_indexOf_0_3 : decode b_String_indexOf_0 3 = .ok (.invokevirtual 633, 3) := by decide +kernel
theorem d_String_indexOf_0_6 : decode b_String_indexOf_0 6 = .ok (.ireturn, 1) := by decide +kernel
def μ_CString_indexOf_0_X1 : ax_M := (b_String_indexOf_0, 2, "java/lang/String", (some .int), 3, 70, 0, 0)
theorem Y_CString_indexOf_0_X1 : ax_YV μ_CString_indexOf_0_X1 y_String_indexOf_0 1 := ⟨⟨ax_mem (by decide +kernel) rfl, ax_mem (by decide +kernel) rfl, by decide, by decide, by decide +kernel⟩, ax_mem (by decide +kernel) rfl, ax_mem (by decide +kernel) rfl⟩
theorem km_String_633 : Cond.methodLink "java/lang/String" 633 ⟨"java/lang/String", "indexOf", "(II)I"⟩ ∈ ax_T := ax_mem (by decide +kernel) rfl
def J_CString_indexOf_0_X1 (N : Nat) (a1 : Int32) (σ : St) : Option (Int32 × St) :=
  ax_bind (J_CString_indexOf_1_X1 N a1 0 σ) (fun r1 σ1 =>
  some (r1, σ1))
set_option maxHeartbeats 1000000 in
theorem c_CString_indexOf_0_X1 {N : Nat} {g : ax_G} {a1 : Int32} {σ : St} {r9 : Int32} {s9 : St} (hJ : J_CString_indexOf_0_X1 N a1 σ = some (r9, s9)) : ax_CI μ_CString_indexOf_0_X1 g y_String_indexOf_0 (wC g) [.ref (g.2.2.2 3), .int a1] σ (ax_eqI r9 s9) := by
  refine ax_CI.of (by decide +kernel) rfl (Nat.le_of_ble_eq_true rfl) (fun x A _ => ?_)
  show AW x μ_CString_indexOf_0_X1 g A (wC g) (0, 0) (ax_QI x μ_CString_indexOf_0_X1 g A (wC g) (ax_eqI r9 s9)) 0 [(0, .ref (g.2.2.2 3)), (1, .int a1)] [] σ
  rw [J_CString_indexOf_0_X1] at hJ
  refine aw_aload_n (n := 1) d_String_indexOf_0_0 rfl rfl 0 rfl ?_
  refine aw_iload_n (n := 2) d_String_indexOf_0_1 rfl rfl 1 rfl ?_
  refine aw_iconst (n := 3) (v := 0) d_String_indexOf_0_2 rfl (by decide) ?_
  obtain ⟨r1, σ1, hc1, hJ⟩ := ax_bindE hJ
  refine aw_callXi (n := 6) (c_CString_indexOf_1_X1 hc1) rx_1 Y_CString_indexOf_1_X1 km_String_633 (by decide) (by decide) rfl rfl (Nat.le_of_ble_eq_true rfl) d_String_indexOf_0_3 rfl (fun r9 s9 hp => ?_)
  obtain ⟨rfl, rfl⟩ := hp
  exact aw_iret d_String_indexOf_0_6 rfl (ax_ret hJ)
abbrev b_Tokens_endOfDigits : ByteArray := prog_8_method_9_code
def y_Tokens_endOfDigits : MethodName := ⟨"DotConsole$Tokens", "endOfDigits", "(I)I"⟩
theorem d_Tokens_endOfDigits_0 : decode b_Tokens_endOfDigits 0 = .ok (.iload_n 1, 1) := by decide +kernel
theorem d_Tokens_endOfDigits_1 : decode b_Tokens_endOfDigits 1 = .ok (.istore_n 2, 1) := by decide +kernel
theorem d_Tokens_endOfDigits_2 : decode b_Tokens_endOfDigits 2 = .ok (.iload_n 2, 1) := by decide +kernel
theorem d_Tokens_endOfDigits_3 : decode b_Tokens_endOfDigits 3 = .ok (.aload_n 0, 1) := by decide +kernel
theorem d_Tokens_endOfDigits_4 : decode b_Tokens_endOfDigits 4 = .ok (.getfield 40, 3) := by decide +kernel
theorem d_Tokens_endOfDigits_7 : decode b_Tokens_endOfDigits 7 = .ok (.if_icmp .ge 21, 3) := by decide +kernel
theorem d_Tokens_endOfDigits_10 : decode b_Tokens_endOfDigits 10 = .ok (.aload_n 0, 1) := by decide +kernel
theorem d_Tokens_endOfDigits_11 : decode b_Tokens_endOfDigits 11 = .ok (.getfield 15, 3) := by decide +kernel
theorem d_Tokens_endOfDigits_14 : decode b_Tokens_endOfDigits 14 = .ok (.iload_n 2, 1) := by decide +kernel
theorem d_Tokens_endOfDigits_15 : decode b_Tokens_endOfDigits 15 = .ok (.caload, 1) := by decide +kernel
theorem d_Tokens_endOfDigits_16 : decode b_Tokens_endOfDigits 16 = .ok (.invokestatic 61, 3) := by decide +kernel
theorem d_Tokens_endOfDigits_19 : decode b_Tokens_endOfDigits 19 = .ok (.ifCond .eq 9, 3) := by decide +kernel
theorem d_Tokens_endOfDigits_22 : decode b_Tokens_endOfDigits 22 = .ok (.iinc 2 1, 3) := by decide +kernel
theorem d_Tokens_endOfDigits_25 : decode b_Tokens_endOfDigits 25 = .ok (.goto (-23), 3) := by decide +kernel
theorem d_Tokens_endOfDigits_28 : decode b_Tokens_endOfDigits 28 = .ok (.iload_n 2, 1) := by decide +kernel
theorem d_Tokens_endOfDigits_29 : decode b_Tokens_endOfDigits 29 = .ok (.ireturn, 1) := by decide +kernel
def μ_Tokens_endOfDigits : ax_M := (b_Tokens_endOfDigits, 3, "DotConsole$Tokens", (some .int), 1, 20, 0, 0)
theorem Y_Tokens_endOfDigits : ax_YV μ_Tokens_endOfDigits y_Tokens_endOfDigits 1 := ⟨⟨ax_mem (by decide +kernel) rfl, ax_mem (by decide +kernel) rfl, by decide, by decide, by decide +kernel⟩, ax_mem (by decide +kernel) rfl, ax_mem (by decide +kernel) rfl⟩
theorem km_Tokens_61 : Cond.methodLink "DotConsole$Tokens" 61 ⟨"DotConsole$Tokens", "isDigit", "(C)Z"⟩ ∈ ax_T := ax_mem (by decide +kernel) rfl
def J_Tokens_endOfDigits_2 (N : Nat) : Nat → Int32 → St → Option (Int32 × St)
  | 0, _, _ => none
  | n + 1, l2, σ => (if (σ.1 1) ≤ l2 then
  some (l2, σ)
  else (if (inB l2 48) = true then ax_bind (J_Tokens_isDigit N (σ.2 1 l2.toNatClampNeg) σ) (fun r1 σ1 =>
  (if r1 = 0 then
  some (l2, σ1)
  else ax_let ((l2 + 1) : Int32) (fun v1 =>
  J_Tokens_endOfDigits_2 N n v1 σ1))) else none))
def J_Tokens_endOfDigits (N : Nat) (a1 : Int32) (σ : St) : Option (Int32 × St) :=
  J_Tokens_endOfDigits_2 N N a1 σ
set_option maxHeartbeats 1000000 in
theorem t_Tokens_endOfDigits_2 {N : Nat} {g : ax_G} {r9 : Int32} {s9 : St} (x : ax_X) (A : Nat → Prop) : ∀ (n : Nat) (l2 : Int32) (σ : St), J_Tokens_endOfDigits_2 N n l2 σ = some (r9, s9) → AW x μ_Tokens_endOfDigits g A (wC g) (0, 0) (ax_QI x μ_Tokens_endOfDigits g A (wC g) (ax_eqI r9 s9)) 2 [(0, .ref (g.2.1 1)), (2, .int l2)] [] σ := by
  intro n
  induction n with
  | zero => intro l2 σ hJ; rw [J_Tokens_endOfDigits_2] at hJ; cases hJ
  | succ n ih =>
    intro l2 σ hJ
    rw [J_Tokens_endOfDigits_2] at hJ
    refine aw_iload_n (n := 3) d_Tokens_endOfDigits_2 rfl rfl 1 rfl ?_
    refine aw_aload_n (n := 4) d_Tokens_endOfDigits_3 rfl rfl 0 rfl ?_
    refine gf_Tokens_length (n := 7) d_Tokens_endOfDigits_4 rfl kf_Tokens_40 ?_
    refine aw_icmp_ge (n := 10) (t := 28) d_Tokens_endOfDigits_7 rfl (by decide) (fun c1 => ?_) (fun c1 => ?_)
    · rw [if_pos c1] at hJ
      refine aw_iload_n (n := 29) d_Tokens_endOfDigits_28 rfl rfl 1 rfl ?_
      exact aw_iret d_Tokens_endOfDigits_29 rfl (ax_ret hJ)
    · rw [if_neg c1] at hJ
      refine aw_aload_n (n := 11) d_Tokens_endOfDigits_10 rfl rfl 0 rfl ?_
      refine gf_Tokens_text (n := 14) d_Tokens_endOfDigits_11 rfl kf_Tokens_15 ?_
      refine aw_iload_n (n := 15) d_Tokens_endOfDigits_14 rfl rfl 1 rfl ?_
      obtain ⟨h1, hJ⟩ := ax_need hJ
      refine al_3 (n := 16) d_Tokens_endOfDigits_15 rfl h1 ?_
      obtain ⟨r1, σ1, hc1, hJ⟩ := ax_bindE hJ
      refine aw_callSi (n := 19) (c_Tokens_isDigit hc1) Y_Tokens_isDigit km_Tokens_61 (by decide) (by decide) rfl rfl (Nat.le_of_ble_eq_true rfl) d_Tokens_endOfDigits_16 rfl (fun r9 s9 hp => ?_)
      obtain ⟨rfl, rfl, hb1⟩ := hp
      refine aw_if_eq (n := 22) (t := 28) d_Tokens_endOfDigits_19 rfl (by decide) (fun c2 => ?_) (fun c2 => ?_)
      · rw [if_pos c2] at hJ
        refine aw_iload_n (n := 29) d_Tokens_endOfDigits_28 rfl rfl 1 rfl ?_
        exact aw_iret d_Tokens_endOfDigits_29 rfl (ax_ret hJ)
      · rw [if_neg c2] at hJ
        obtain ⟨v1, ev1, hJ⟩ := ax_letE hJ
        refine aw_iinc (n := 25) (j := 1) (v := v1) d_Tokens_endOfDigits_22 rfl rfl (ev1) (by decide) rfl ?_
        refine aw_goto (t := 2) d_Tokens_endOfDigits_25 (by decide) ?_
        refine aw_sub [1, 0] rfl ?_
        exact ih _ _ hJ
set_option maxHeartbeats 1000000 in
theorem c_Tokens_endOfDigits {N : Nat} {g : ax_G} {a1 : Int32} {σ : St} {r9 : Int32} {s9 : St} (hJ : J_Tokens_endOfDigits N a1 σ = some (r9, s9)) : ax_CI μ_Tokens_endOfDigits g y_Tokens_endOfDigits (wC g) [.ref (g.2.1 1), .int a1] σ (ax_eqI r9 s9) := by
  refine ax_CI.of (plainFor_of_name rfl) rfl (Nat.le_of_ble_eq_true rfl) (fun x A _ => ?_)
  show AW x μ_Tokens_endOfDigits g A (wC g) (0, 0) (ax_QI x μ_Tokens_endOfDigits g A (wC g) (ax_eqI r9 s9)) 0 [(0, .ref (g.2.1 1)), (1, .int a1)] [] σ
  rw [J_Tokens_endOfDigits] at hJ
  refine aw_iload_n (n := 1) d_Tokens_endOfDigits_0 rfl rfl 1 rfl ?_
  refine aw_istore_n (n := 2) d_Tokens_endOfDigits_1 rfl rfl (by decide) rfl ?_
  refine aw_sub [1, 0] rfl ?_
  exact t_Tokens_endOfDigits_2 x A N _ _ hJ
abbrev b_Tokens_digitsFrom : ByteArray := prog_8_method_10_code
def y_Tokens_digitsFrom : MethodName := ⟨"DotConsole$Tokens", "digitsFrom", "(II)I"⟩
theorem d_Tokens_digitsFrom_0 : decode b_Tokens_digitsFrom 0 = .ok (.iconst 0, 1) := by decide +kernel
theorem d_Tokens_digitsFrom_1 : decode b_Tokens_digitsFrom 1 = .ok (.istore_n 3, 1) := by decide +kernel
theorem d_Tokens_digitsFrom_2 : decode b_Tokens_digitsFrom 2 = .ok (.iload_n 1, 1) := by decide +kernel
theorem d_Tokens_digitsFrom_3 : decode b_Tokens_digitsFrom 3 = .ok (.istore 4, 2) := by decide +kernel
theorem d_Tokens_digitsFrom_5 : decode b_Tokens_digitsFrom 5 = .ok (.iload 4, 2) := by decide +kernel
theorem d_Tokens_digitsFrom_7 : decode b_Tokens_digitsFrom 7 = .ok (.iload_n 2, 1) := by decide +kernel
theorem d_Tokens_digitsFrom_8 : decode b_Tokens_digitsFrom 8 = .ok (.if_icmp .ge 25, 3) := by decide +kernel
theorem d_Tokens_digitsFrom_11 : decode b_Tokens_digitsFrom 11 = .ok (.iload_n 3, 1) := by decide +kernel
theorem d_Tokens_digitsFrom_12 : decode b_Tokens_digitsFrom 12 = .ok (.bipush 10, 2) := by decide +kernel
theorem d_Tokens_digitsFrom_14 : decode b_Tokens_digitsFrom 14 = .ok (.imul, 1) := by decide +kernel
theorem d_Tokens_digitsFrom_15 : decode b_Tokens_digitsFrom 15 = .ok (.aload_n 0, 1) := by decide +kernel
theorem d_Tokens_digitsFrom_16 : decode b_Tokens_digitsFrom 16 = .ok (.getfield 15, 3) := by decide +kernel
theorem d_Tokens_digitsFrom_19 : decode b_Tokens_digitsFrom 19 = .ok (.iload 4, 2) := by decide +kernel
theorem d_Tokens_digitsFrom_21 : decode b_Tokens_digitsFrom 21 = .ok (.caload, 1) := by decide +kernel
theorem d_Tokens_digitsFrom_22 : decode b_Tokens_digitsFrom 22 = .ok (.bipush 48, 2) := by decide +kernel
theorem d_Tokens_digitsFrom_24 : decode b_Tokens_digitsFrom 24 = .ok (.isub, 1) := by decide +kernel
theorem d_Tokens_digitsFrom_25 : decode b_Tokens_digitsFrom 25 = .ok (.iadd, 1) := by decide +kernel
theorem d_Tokens_digitsFrom_26 : decode b_Tokens_digitsFrom 26 = .ok (.istore_n 3, 1) := by decide +kernel
theorem d_Tokens_digitsFrom_27 : decode b_Tokens_digitsFrom 27 = .ok (.iinc 4 1, 3) := by decide +kernel
theorem d_Tokens_digitsFrom_30 : decode b_Tokens_digitsFrom 30 = .ok (.goto (-25), 3) := by decide +kernel
theorem d_Tokens_digitsFrom_33 : decode b_Tokens_digitsFrom 33 = .ok (.iload_n 3, 1) := by decide +kernel
theorem d_Tokens_digitsFrom_34 : decode b_Tokens_digitsFrom 34 = .ok (.ireturn, 1) := by decide +kernel
def μ_Tokens_digitsFrom : ax_M := (b_Tokens_digitsFrom, 5, "DotConsole$Tokens", (some .int), 0, 0, 0, 0)
theorem Y_Tokens_digitsFrom : ax_YV μ_Tokens_digitsFrom y_Tokens_digitsFrom 2 := ⟨⟨ax_mem (by decide +kernel) rfl, ax_mem (by decide +kernel) rfl, by decide, by decide, by decide +kernel⟩, ax_mem (by decide +kernel) rfl, ax_mem (by decide +kernel) rfl⟩
def J_Tokens_digitsFrom_5 (N : Nat) : Nat → Int32 → Int32 → Int32 → St → Option (Int32 × St)
  | 0, _, _, _, _ => none
  | n + 1, l2, l3, l4, σ => (if l2 ≤ l4 then
  some (l3, σ)
  else (if (inB l4 48) = true then ax_let (((l3 * 10) + ((σ.2 1 l4.toNatClampNeg) - 48)) : Int32) (fun v1 =>
  ax_let ((l4 + 1) : Int32) (fun v2 =>
  J_Tokens_digitsFrom_5 N n l2 v1 v2 σ)) else none))
def J_Tokens_digitsFrom (N : Nat) (a1 : Int32) (a2 : Int32) (σ : St) : Option (Int32 × St) :=
  J_Tokens_digitsFrom_5 N N a2 0 a1 σ
set_option maxHeartbeats 1000000 in
theorem t_Tokens_digitsFrom_5 {N : Nat} {g : ax_G} {r9 : Int32} {s9 : St} (x : ax_X) (A : Nat → Prop) : ∀ (n : Nat) (l2 : Int32) (l3 : Int32) (l4 : Int32) (σ : St), J_Tokens_digitsFrom_5 N n l2 l3 l4 σ = some (r9, s9) → AW x μ_Tokens_digitsFrom g A (wC g) (0, 0) (ax_QI x μ_Tokens_digitsFrom g A (wC g) (ax_eqI r9 s9)) 5 [(0, .ref (g.2.1 1)), (2, .int l2), (3, .int l3), (4, .int l4)] [] σ := by
  intro n
  induction n with
  | zero => intro l2 l3 l4 σ hJ; rw [J_Tokens_digitsFrom_5] at hJ; cases hJ
  | succ n ih =>
    intro l2 l3 l4 σ hJ
    rw [J_Tokens_digitsFrom_5] at hJ
    refine aw_iload (n := 7) d_Tokens_digitsFrom_5 rfl 3 rfl ?_
    refine aw_iload_n (n := 8) d_Tokens_digitsFrom_7 rfl rfl 1 rfl ?_
    refine aw_icmp_ge (n := 11) (t := 33) d_Tokens_digitsFrom_8 rfl (by decide) (fun c1 => ?_) (fun c1 => ?_)
    · rw [if_pos c1] at hJ
      refine aw_iload_n (n := 34) d_Tokens_digitsFrom_33 rfl rfl 2 rfl ?_
      exact aw_iret d_Tokens_digitsFrom_34 rfl (ax_ret hJ)
    · rw [if_neg c1] at hJ
      refine aw_iload_n (n := 12) d_Tokens_digitsFrom_11 rfl rfl 2 rfl ?_
      refine aw_bipush (n := 14) (v := 10) d_Tokens_digitsFrom_12 rfl (by decide) ?_
      refine aw_imul (n := 15) d_Tokens_digitsFrom_14 rfl ?_
      refine aw_aload_n (n := 16) d_Tokens_digitsFrom_15 rfl rfl 0 rfl ?_
      refine gf_Tokens_text (n := 19) d_Tokens_digitsFrom_16 rfl kf_Tokens_15 ?_
      refine aw_iload (n := 21) d_Tokens_digitsFrom_19 rfl 3 rfl ?_
      obtain ⟨h1, hJ⟩ := ax_need hJ
      refine al_3 (n := 22) d_Tokens_digitsFrom_21 rfl h1 ?_
      refine aw_bipush (n := 24) (v := 48) d_Tokens_digitsFrom_22 rfl (by decide) ?_
      refine aw_isub (n := 25) d_Tokens_digitsFrom_24 rfl ?_
      refine aw_iadd (n := 26) d_Tokens_digitsFrom_25 rfl ?_
      obtain ⟨v1, ev1, hJ⟩ := ax_letE hJ
      refine aw_top ev1 ?_
      refine aw_istore_n (n := 27) d_Tokens_digitsFrom_26 rfl rfl (by decide) rfl ?_
      obtain ⟨v2, ev2, hJ⟩ := ax_letE hJ
      refine aw_iinc (n := 30) (j := 3) (v := v2) d_Tokens_digitsFrom_27 rfl rfl (ev2) (by decide) rfl ?_
      refine aw_goto (t := 5) d_Tokens_digitsFrom_30 (by decide) ?_
      refine aw_sub [2, 3, 1, 0] rfl ?_
      exact ih _ _ _ _ hJ
set_option maxHeartbeats 1000000 in
theorem c_Tokens_digitsFrom {N : Nat} {g : ax_G} {a1 : Int32} {a2 : Int32} {σ : St} {r9 : Int32} {s9 : St} (hJ : J_Tokens_digitsFrom N a1 a2 σ = some (r9, s9)) : ax_CI μ_Tokens_digitsFrom g y_Tokens_digitsFrom (wC g) [.ref (g.2.1 1), .int a1, .int a2] σ (ax_eqI r9 s9) := by
  refine ax_CI.of (plainFor_of_name rfl) rfl (Nat.le_of_ble_eq_true rfl) (fun x A _ => ?_)
  show AW x μ_Tokens_digitsFrom g A (wC g) (0, 0) (ax_QI x μ_Tokens_digitsFrom g A (wC g) (ax_eqI r9 s9)) 0 [(0, .ref (g.2.1 1)), (1, .int a1), (2, .int a2)] [] σ
  rw [J_Tokens_digitsFrom] at hJ
  refine aw_iconst (n := 1) (v := 0) d_Tokens_digitsFrom_0 rfl (by decide) ?_
  refine aw_istore_n (n := 2) d_Tokens_digitsFrom_1 rfl rfl (by decide) rfl ?_
  refine aw_iload_n (n := 3) d_Tokens_digitsFrom_2 rfl rfl 2 rfl ?_
  refine aw_istore (n := 5) d_Tokens_digitsFrom_3 rfl (by decide) rfl ?_
  refine aw_sub [2, 4, 1, 0] rfl ?_
  exact t_Tokens_digitsFrom_5 x A N _ _ _ _ hJ
abbrev b_Tokens_cutNumber : ByteArray := prog_8_method_8_code
def y_Tokens_cutNumber : MethodName := ⟨"DotConsole$Tokens", "cutNumber", "()I"⟩
theorem d_Tokens_cutNumber_0 : decode b_Tokens_cutNumber 0 = .ok (.aload_n 0, 1) := by decide +kernel
theorem d_Tokens_cutNumber_1 : decode b_Tokens_cutNumber 1 = .ok (.getfield 44, 3) := by decide +kernel
theorem d_Tokens_cutNumber_4 : decode b_Tokens_cutNumber 4 = .ok (.istore_n 1, 1) := by decide +kernel
theorem d_Tokens_cutNumber_5 : decode b_Tokens_cutNumber 5 = .ok (.aload_n 0, 1) := by decide +kernel
theorem d_Tokens_cutNumber_6 : decode b_Tokens_cutNumber 6 = .ok (.iload_n 1, 1) := by decide +kernel
theorem d_Tokens_cutNumber_7 : decode b_Tokens_cutNumber 7 = .ok (.invokevirtual 76, 3) := by decide +kernel
theorem d_Tokens_cutNumber_10 : decode b_Tokens_cutNumber 10 = .ok (.istore_n 2, 1) := by decide +kernel
theorem d_Tokens_cutNumber_11 : decode b_Tokens_cutNumber 11 = .ok (.iload_n 2, 1) := by decide +kernel
theorem d_Tokens_cutNumber_12 : decode b_Tokens_cutNumber 12 = .ok (.iconst 1, 1) := by decide +kernel
theorem d_Tokens_cutNumber_13 : decode b_Tokens_cutNumber 13 = .ok (.iadd, 1) := by decide +kernel
theorem d_Tokens_cutNumber_14 : decode b_Tokens_cutNumber 14 = .ok (.aload_n 0, 1) := by decide +kernel
theorem d_Tokens_cutNumber_15 : decode b_Tokens_cutNumber 15 = .ok (.getfield 40, 3) := by decide +kernel
theorem d_Tokens_cutNumber_18 : decode b_Tokens_cutNumber 18 = .ok (.if_icmp .ge 32, 3) := by decide +kernel
theorem d_Tokens_cutNumber_21 : decode b_Tokens_cutNumber 21 = .ok (.aload_n 0, 1) := by decide +kernel
theorem d_Tokens_cutNumber_22 : decode b_Tokens_cutNumber 22 = .ok (.getfield 15, 3) := by decide +kernel
theorem d_Tokens_cutNumber_25 : decode b_Tokens_cutNumber 25 = .ok (.iload_n 2, 1) := by decide +kernel
theorem d_Tokens_cutNumber_26 : decode b_Tokens_cutNumber 26 = .ok (.caload, 1) := by decide +kernel
theorem d_Tokens_cutNumber_27 : decode b_Tokens_cutNumber 27 = .ok (.bipush 46, 2) := by decide +kernel
theorem d_Tokens_cutNumber_29 : decode b_Tokens_cutNumber 29 = .ok (.if_icmp .ne 21, 3) := by decide +kernel
theorem d_Tokens_cutNumber_32 : decode b_Tokens_cutNumber 32 = .ok (.aload_n 0, 1) := by decide +kernel
theorem d_Tokens_cutNumber_33 : decode b_Tokens_cutNumber 33 = .ok (.getfield 15, 3) := by decide +kernel
theorem d_Tokens_cutNumber_36 : decode b_Tokens_cutNumber 36 = .ok (.iload_n 2, 1) := by decide +kernel
theorem d_Tokens_cutNumber_37 : decode b_Tokens_cutNumber 37 = .ok (.iconst 1, 1) := by decide +kernel
theorem d_Tokens_cutNumber_38 : decode b_Tokens_cutNumber 38 = .ok (.iadd, 1) := by decide +kernel
theorem d_Tokens_cutNumber_39 : decode b_Tokens_cutNumber 39 = .ok (.caload, 1) := by decide +kernel
theorem d_Tokens_cutNumber_40 : decode b_Tokens_cutNumber 40 = .ok (.invokestatic 61, 3) := by decide +kernel
theorem d_Tokens_cutNumber_43 : decode b_Tokens_cutNumber 43 = .ok (.ifCond .eq 7, 3) := by decide +kernel
theorem d_Tokens_cutNumber_46 : decode b_Tokens_cutNumber 46 = .ok (.iconst 1, 1) := by decide +kernel
theorem d_Tokens_cutNumber_47 : decode b_Tokens_cutNumber 47 = .ok (.goto 4, 3) := by decide +kernel
theorem d_Tokens_cutNumber_50 : decode b_Tokens_cutNumber 50 = .ok (.iconst 0, 1) := by decide +kernel
theorem d_Tokens_cutNumber_51 : decode b_Tokens_cutNumber 51 = .ok (.istore_n 3, 1) := by decide +kernel
theorem d_Tokens_cutNumber_52 : decode b_Tokens_cutNumber 52 = .ok (.aload_n 0, 1) := by decide +kernel
theorem d_Tokens_cutNumber_53 : decode b_Tokens_cutNumber 53 = .ok (.iload_n 3, 1) := by decide +kernel
theorem d_Tokens_cutNumber_54 : decode b_Tokens_cutNumber 54 = .ok (.ifCond .eq 13, 3) := by decide +kernel
theorem d_Tokens_cutNumber_57 : decode b_Tokens_cutNumber 57 = .ok (.aload_n 0, 1) := by decide +kernel
theorem d_Tokens_cutNumber_58 : decode b_Tokens_cutNumber 58 = .ok (.iload_n 2, 1) := by decide +kernel
theorem d_Tokens_cutNumber_59 : decode b_Tokens_cutNumber 59 = .ok (.iconst 1, 1) := by decide +kernel
theorem d_Tokens_cutNumber_60 : decode b_Tokens_cutNumber 60 = .ok (.iadd, 1) := by decide +kernel
theorem d_Tokens_cutNumber_61 : decode b_Tokens_cutNumber 61 = .ok (.invokevirtual 76, 3) := by decide +kernel
theorem d_Tokens_cutNumber_64 : decode b_Tokens_cutNumber 64 = .ok (.goto 4, 3) := by decide +kernel
theorem d_Tokens_cutNumber_67 : decode b_Tokens_cutNumber 67 = .ok (.iload_n 2, 1) := by decide +kernel
theorem d_Tokens_cutNumber_68 : decode b_Tokens_cutNumber 68 = .ok (.putfield 44, 3) := by decide +kernel
theorem d_Tokens_cutNumber_71 : decode b_Tokens_cutNumber 71 = .ok (.iload_n 3, 1) := by decide +kernel
theorem d_Tokens_cutNumber_72 : decode b_Tokens_cutNumber 72 = .ok (.ifCond .eq 14, 3) := by decide +kernel
theorem d_Tokens_cutNumber_75 : decode b_Tokens_cutNumber 75 = .ok (.aload_n 0, 1) := by decide +kernel
theorem d_Tokens_cutNumber_76 : decode b_Tokens_cutNumber 76 = .ok (.getfield 44, 3) := by decide +kernel
theorem d_Tokens_cutNumber_79 : decode b_Tokens_cutNumber 79 = .ok (.iload_n 2, 1) := by decide +kernel
theorem d_Tokens_cutNumber_80 : decode b_Tokens_cutNumber 80 = .ok (.isub, 1) := by decide +kernel
theorem d_Tokens_cutNumber_81 : decode b_Tokens_cutNumber 81 = .ok (.iconst 1, 1) := by decide +kernel
theorem d_Tokens_cutNumber_82 : decode b_Tokens_cutNumber 82 = .ok (.isub, 1) := by decide +kernel
theorem d_Tokens_cutNumber_83 : decode b_Tokens_cutNumber 83 = .ok (.goto 4, 3) := by decide +kernel
theorem d_Tokens_cutNumber_86 : decode b_Tokens_cutNumber 86 = .ok (.iconst 0, 1) := by decide +kernel
theorem d_Tokens_cutNumber_87 : decode b_Tokens_cutNumber 87 = .ok (.istore 4, 2) := by decide +kernel
theorem d_Tokens_cutNumber_89 : decode b_Tokens_cutNumber 89 = .ok (.iload_n 2, 1) := by decide +kernel
theorem d_Tokens_cutNumber_90 : decode b_Tokens_cutNumber 90 = .ok (.iload_n 1, 1) := by decide +kernel
theorem d_Tokens_cutNumber_91 : decode b_Tokens_cutNumber 91 = .ok (.isub, 1) := by decide +kernel
theorem d_Tokens_cutNumber_92 : decode b_Tokens_cutNumber 92 = .ok (.iconst 5, 1) := by decide +kernel
theorem d_Tokens_cutNumber_93 : decode b_Tokens_cutNumber 93 = .ok (.if_icmp .gt 21, 3) := by decide +kernel
theorem d_Tokens_cutNumber_96 : decode b_Tokens_cutNumber 96 = .ok (.iload 4, 2) := by decide +kernel
theorem d_Tokens_cutNumber_98 : decode b_Tokens_cutNumber 98 = .ok (.iconst 4, 1) := by decide +kernel
theorem d_Tokens_cutNumber_99 : decode b_Tokens_cutNumber 99 = .ok (.if_icmp .gt 15, 3) := by decide +kernel
theorem d_Tokens_cutNumber_102 : decode b_Tokens_cutNumber 102 = .ok (.aload_n 0, 1) := by decide +kernel
theorem d_Tokens_cutNumber_103 : decode b_Tokens_cutNumber 103 = .ok (.iload_n 1, 1) := by decide +kernel
theorem d_Tokens_cutNumber_104 : decode b_Tokens_cutNumber 104 = .ok (.iload_n 2, 1) := by decide +kernel
theorem d_Tokens_cutNumber_105 : decode b_Tokens_cutNumber 105 = .ok (.invokevirtual 79, 3) := by decide +kernel
theorem d_Tokens_cutNumber_108 : decode b_Tokens_cutNumber 108 = .ok (.sipush 32767, 3) := by decide +kernel
theorem d_Tokens_cutNumber_111 : decode b_Tokens_cutNumber 111 = .ok (.if_icmp .le 5, 3) := by decide +kernel
theorem d_Tokens_cutNumber_114 : decode b_Tokens_cutNumber 114 = .ok (.iconst 1, 1) := by decide +kernel
theorem d_Tokens_cutNumber_115 : decode b_Tokens_cutNumber 115 = .ok (.ireturn, 1) := by decide +kernel
theorem d_Tokens_cutNumber_116 : decode b_Tokens_cutNumber 116 = .ok (.aload_n 0, 1) := by decide +kernel
theorem d_Tokens_cutNumber_117 : decode b_Tokens_cutNumber 117 = .ok (.getfield 25, 3) := by decide +kernel
theorem d_Tokens_cutNumber_120 : decode b_Tokens_cutNumber 120 = .ok (.aload_n 0, 1) := by decide +kernel
theorem d_Tokens_cutNumber_121 : decode b_Tokens_cutNumber 121 = .ok (.getfield 47, 3) := by decide +kernel
theorem d_Tokens_cutNumber_124 : decode b_Tokens_cutNumber 124 = .ok (.aload_n 0, 1) := by decide +kernel
theorem d_Tokens_cutNumber_125 : decode b_Tokens_cutNumber 125 = .ok (.iload_n 1, 1) := by decide +kernel
theorem d_Tokens_cutNumber_126 : decode b_Tokens_cutNumber 126 = .ok (.iload_n 2, 1) := by decide +kernel
theorem d_Tokens_cutNumber_127 : decode b_Tokens_cutNumber 127 = .ok (.invokevirtual 79, 3) := by decide +kernel
theorem d_Tokens_cutNumber_130 : decode b_Tokens_cutNumber 130 = .ok (.ldc 83, 2) := by decide +kernel
theorem d_Tokens_cutNumber_132 : decode b_Tokens_cutNumber 132 = .ok (.imul, 1) := by decide +kernel
theorem d_Tokens_cutNumber_133 : decode b_Tokens_cutNumber 133 = .ok (.aload_n 0, 1) := by decide +kernel
theorem d_Tokens_cutNumber_134 : decode b_Tokens_cutNumber 134 = .ok (.iload_n 2, 1) := by decide +kernel
theorem d_Tokens_cutNumber_135 : decode b_Tokens_cutNumber 135 = .ok (.iconst 1, 1) := by decide +kernel
theorem d_Tokens_cutNumber_136 : decode b_Tokens_cutNumber 136 = .ok (.iadd, 1) := by decide +kernel
theorem d_Tokens_cutNumber_137 : decode b_Tokens_cutNumber 137 = .ok (.aload_n 0, 1) := by decide +kernel
theorem d_Tokens_cutNumber_138 : decode b_Tokens_cutNumber 138 = .ok (.getfield 44, 3) := by decide +kernel
theorem d_Tokens_cutNumber_141 : decode b_Tokens_cutNumber 141 = .ok (.invokevirtual 79, 3) := by decide +kernel
theorem d_Tokens_cutNumber_144 : decode b_Tokens_cutNumber 144 = .ok (.ldc 83, 2) := by decide +kernel
theorem d_Tokens_cutNumber_146 : decode b_Tokens_cutNumber 146 = .ok (.imul, 1) := by decide +kernel
theorem d_Tokens_cutNumber_147 : decode b_Tokens_cutNumber 147 = .ok (.getstatic 84, 3) := by decide +kernel
theorem d_Tokens_cutNumber_150 : decode b_Tokens_cutNumber 150 = .ok (.iload 4, 2) := by decide +kernel
theorem d_Tokens_cutNumber_152 : decode b_Tokens_cutNumber 152 = .ok (.iaload, 1) := by decide +kernel
theorem d_Tokens_cutNumber_153 : decode b_Tokens_cutNumber 153 = .ok (.idiv, 1) := by decide +kernel
theorem d_Tokens_cutNumber_154 : decode b_Tokens_cutNumber 154 = .ok (.iadd, 1) := by decide +kernel
theorem d_Tokens_cutNumber_155 : decode b_Tokens_cutNumber 155 = .ok (.iastore, 1) := by decide +kernel
theorem d_Tokens_cutNumber_156 : decode b_Tokens_cutNumber 156 = .ok (.iconst 2, 1) := by decide +kernel
theorem d_Tokens_cutNumber_157 : decode b_Tokens_cutNumber 157 = .ok (.ireturn, 1) := by decide +kernel
def μ_Tokens_cutNumber : ax_M := (b_Tokens_cutNumber, 5, "DotConsole$Tokens", (some .int), 2, 42, 0, 0)
theorem Y_Tokens_cutNumber : ax_YV μ_Tokens_cutNumber y_Tokens_cutNumber 0 := ⟨⟨ax_mem (by decide +kernel) rfl, ax_mem (by decide +kernel) rfl, by decide, by decide, by decide +kernel⟩, ax_mem (by decide +kernel) rfl, ax_mem (by decide +kernel) rfl⟩
theorem km_Tokens_79 : Cond.methodLink "DotConsole$Tokens" 79 ⟨"DotConsole$Tokens", "digitsFrom", "(II)I"⟩ ∈ ax_T := ax_mem (by decide +kernel) rfl
theorem kf_Tokens_25 : Cond.fieldLink "DotConsole$Tokens" 25 "DotConsole$Tokens" "meanings" "[I" ∈ ax_T := ax_mem (by decide +kernel) rfl
theorem kf_Tokens_47 : Cond.fieldLink "DotConsole$Tokens" 47 "DotConsole$Tokens" "found" "I" ∈ ax_T := ax_mem (by decide +kernel) rfl
theorem kc_Tokens_83 : Cond.constant "DotConsole$Tokens" 83 (65536) ∈ ax_T := ax_mem (by decide +kernel) rfl
theorem kf_Tokens_44 : Cond.fieldLink "DotConsole$Tokens" 44 "DotConsole$Tokens" "next" "I" ∈ ax_T := ax_mem (by decide +kernel) rfl
theorem kf_Tokens_84 : Cond.fieldLinkNest "DotConsole$Tokens" 84 "DotConsole" "TENS" "[I" "DotConsole" ∈ ax_N := by decide +kernel
theorem km_Tokens_76 : Cond.methodLink "DotConsole$Tokens" 76 ⟨"DotConsole$Tokens", "endOfDigits", "(I)I"⟩ ∈ ax_T := ax_mem (by decide +kernel) rfl
def J_Tokens_cutNumber_87 (N : Nat) (t0 : Int32) (l1 : Int32) (l2 : Int32) (σ : St) : Option (Int32 × St) :=
  (if 5 < (l2 - l1) then
  some (1, σ)
  else (if 4 < t0 then
  some (1, σ)
  else ax_bind (J_Tokens_digitsFrom N l1 l2 σ) (fun r4 σ5 =>
  (if r4 ≤ 32767 then
  ax_bind (J_Tokens_digitsFrom N l1 l2 σ5) (fun r5 σ6 =>
  ax_bind (J_Tokens_digitsFrom N (l2 + 1) (σ6.1 3) σ6) (fun r6 σ7 =>
  (if (inB t0 5) = true then (if (tTENS t0.toNatClampNeg) = 0 then none else (if (inB (σ5.1 2) 49) = true then ax_let (sA σ7 4 (σ5.1 2).toNatClampNeg ((r5 * 65536) + ((r6 * 65536) / (tTENS t0.toNatClampNeg)))) (fun σ8 =>
  some (2, σ8)) else none)) else none)))
  else some (1, σ5)))))
def J_Tokens_cutNumber_68 (N : Nat) (t0 : Int32) (l1 : Int32) (l2 : Int32) (l3 : Int32) (σ : St) : Option (Int32 × St) :=
  ax_let (sF σ 3 t0) (fun σ4 =>
  (if l3 = 0 then
  J_Tokens_cutNumber_87 N 0 l1 l2 σ4
  else J_Tokens_cutNumber_87 N (((σ4.1 3) - l2) - 1) l1 l2 σ4))
def J_Tokens_cutNumber_51 (N : Nat) (t0 : Int32) (l1 : Int32) (l2 : Int32) (σ : St) : Option (Int32 × St) :=
  (if t0 = 0 then
  J_Tokens_cutNumber_68 N l2 l1 l2 t0 σ
  else ax_bind (J_Tokens_endOfDigits N (l2 + 1) σ) (fun r3 σ3 =>
  J_Tokens_cutNumber_68 N r3 l1 l2 t0 σ3))
def J_Tokens_cutNumber_50 (N : Nat) (l1 : Int32) (l2 : Int32) (σ : St) : Option (Int32 × St) :=
  J_Tokens_cutNumber_51 N 0 l1 l2 σ
def J_Tokens_cutNumber (N : Nat) (σ : St) : Option (Int32 × St) :=
  ax_let ((σ.1 3) : Int32) (fun v1 =>
  ax_bind (J_Tokens_endOfDigits N v1 σ) (fun r1 σ1 =>
  (if (σ1.1 1) ≤ (r1 + 1) then
  J_Tokens_cutNumber_50 N v1 r1 σ1
  else (if (inB r1 48) = true then (if (σ1.2 1 r1.toNatClampNeg) = 46 then
  (if (inB (r1 + 1) 48) = true then ax_bind (J_Tokens_isDigit N (σ1.2 1 (r1 + 1).toNatClampNeg) σ1) (fun r2 σ2 =>
  (if r2 = 0 then
  J_Tokens_cutNumber_50 N v1 r1 σ2
  else J_Tokens_cutNumber_51 N 1 v1 r1 σ2)) else none)
  else J_Tokens_cutNumber_50 N v1 r1 σ1) else none))))
set_option maxHeartbeats 1000000 in
theorem t_Tokens_cutNumber_87 {N : Nat} {g : ax_G} {r9 : Int32} {s9 : St} (x : ax_X) (A : Nat → Prop) : ∀ (t0 : Int32) (l1 : Int32) (l2 : Int32) (σ : St), J_Tokens_cutNumber_87 N t0 l1 l2 σ = some (r9, s9) → AW x μ_Tokens_cutNumber g A (wC g) (0, 0) (ax_QI x μ_Tokens_cutNumber g A (wC g) (ax_eqI r9 s9)) 87 [(0, .ref (g.2.1 1)), (1, .int l1), (2, .int l2)] [.int t0] σ := by
  intro t0 l1 l2 σ hJ
  rw [J_Tokens_cutNumber_87] at hJ
  refine aw_istore (n := 89) d_Tokens_cutNumber_87 rfl (by decide) rfl ?_
  refine aw_iload_n (n := 90) d_Tokens_cutNumber_89 rfl rfl 3 rfl ?_
  refine aw_iload_n (n := 91) d_Tokens_cutNumber_90 rfl rfl 2 rfl ?_
  refine aw_isub (n := 92) d_Tokens_cutNumber_91 rfl ?_
  refine aw_iconst (n := 93) (v := 5) d_Tokens_cutNumber_92 rfl (by decide) ?_
  refine aw_icmp_gt (n := 96) (t := 114) d_Tokens_cutNumber_93 rfl (by decide) (fun c6 => ?_) (fun c6 => ?_)
  · rw [if_pos c6] at hJ
    refine aw_iconst (n := 115) (v := 1) d_Tokens_cutNumber_114 rfl (by decide) ?_
    exact aw_iret d_Tokens_cutNumber_115 rfl (ax_ret hJ)
  · rw [if_neg c6] at hJ
    refine aw_iload (n := 98) d_Tokens_cutNumber_96 rfl 0 rfl ?_
    refine aw_iconst (n := 99) (v := 4) d_Tokens_cutNumber_98 rfl (by decide) ?_
    refine aw_icmp_gt (n := 102) (t := 114) d_Tokens_cutNumber_99 rfl (by decide) (fun c7 => ?_) (fun c7 => ?_)
    · rw [if_pos c7] at hJ
      refine aw_iconst (n := 115) (v := 1) d_Tokens_cutNumber_114 rfl (by decide) ?_
      exact aw_iret d_Tokens_cutNumber_115 rfl (ax_ret hJ)
    · rw [if_neg c7] at hJ
      refine aw_aload_n (n := 103) d_Tokens_cutNumber_102 rfl rfl 1 rfl ?_
      refine aw_iload_n (n := 104) d_Tokens_cutNumber_103 rfl rfl 2 rfl ?_
      refine aw_iload_n (n := 105) d_Tokens_cutNumber_104 rfl rfl 3 rfl ?_
      obtain ⟨r4, σ5, hc4, hJ⟩ := ax_bindE hJ
      refine aw_callVi (n := 108) (c_Tokens_digitsFrom hc4) 1 rfl rfl Y_Tokens_digitsFrom km_Tokens_79 (by decide) (by decide) rfl rfl (Nat.le_of_ble_eq_true rfl) d_Tokens_cutNumber_105 rfl (fun r9 s9 hp => ?_)
      obtain ⟨rfl, rfl⟩ := hp
      refine aw_sipush (n := 111) (v := 32767) d_Tokens_cutNumber_108 rfl (by decide) ?_
      refine aw_icmp_le (n := 114) (t := 116) d_Tokens_cutNumber_111 rfl (by decide) (fun c8 => ?_) (fun c8 => ?_)
      · rw [if_pos c8] at hJ
        refine aw_aload_n (n := 117) d_Tokens_cutNumber_116 rfl rfl 1 rfl ?_
        refine gf_Tokens_meanings (n := 120) d_Tokens_cutNumber_117 rfl kf_Tokens_25 ?_
        refine aw_aload_n (n := 121) d_Tokens_cutNumber_120 rfl rfl 1 rfl ?_
        refine gf_Tokens_found (n := 124) d_Tokens_cutNumber_121 rfl kf_Tokens_47 ?_
        refine aw_aload_n (n := 125) d_Tokens_cutNumber_124 rfl rfl 1 rfl ?_
        refine aw_iload_n (n := 126) d_Tokens_cutNumber_125 rfl rfl 2 rfl ?_
        refine aw_iload_n (n := 127) d_Tokens_cutNumber_126 rfl rfl 3 rfl ?_
        obtain ⟨r5, σ6, hc5, hJ⟩ := ax_bindE hJ
        refine aw_callVi (n := 130) (c_Tokens_digitsFrom hc5) 1 rfl rfl Y_Tokens_digitsFrom km_Tokens_79 (by decide) (by decide) rfl rfl (Nat.le_of_ble_eq_true rfl) d_Tokens_cutNumber_127 rfl (fun r9 s9 hp => ?_)
        obtain ⟨rfl, rfl⟩ := hp
        refine aw_ldc (n := 132) (v := 65536) d_Tokens_cutNumber_130 rfl kc_Tokens_83 ?_
        refine aw_imul (n := 133) d_Tokens_cutNumber_132 rfl ?_
        refine aw_aload_n (n := 134) d_Tokens_cutNumber_133 rfl rfl 1 rfl ?_
        refine aw_iload_n (n := 135) d_Tokens_cutNumber_134 rfl rfl 3 rfl ?_
        refine aw_iconst (n := 136) (v := 1) d_Tokens_cutNumber_135 rfl (by decide) ?_
        refine aw_iadd (n := 137) d_Tokens_cutNumber_136 rfl ?_
        refine aw_aload_n (n := 138) d_Tokens_cutNumber_137 rfl rfl 1 rfl ?_
        refine gf_Tokens_next (n := 141) d_Tokens_cutNumber_138 rfl kf_Tokens_44 ?_
        obtain ⟨r6, σ7, hc6, hJ⟩ := ax_bindE hJ
        refine aw_callVi (n := 144) (c_Tokens_digitsFrom hc6) 1 rfl rfl Y_Tokens_digitsFrom km_Tokens_79 (by decide) (by decide) rfl rfl (Nat.le_of_ble_eq_true rfl) d_Tokens_cutNumber_141 rfl (fun r9 s9 hp => ?_)
        obtain ⟨rfl, rfl⟩ := hp
        refine aw_ldc (n := 146) (v := 65536) d_Tokens_cutNumber_144 rfl kc_Tokens_83 ?_
        refine aw_imul (n := 147) d_Tokens_cutNumber_146 rfl ?_
        refine gs_TENSN (n := 150) d_Tokens_cutNumber_147 rfl kf_Tokens_84 ?_
        refine aw_iload (n := 152) d_Tokens_cutNumber_150 rfl 0 rfl ?_
        obtain ⟨h3, hJ⟩ := ax_need hJ
        refine al_TENS (n := 153) d_Tokens_cutNumber_152 rfl h3 ?_
        obtain ⟨h4, hJ⟩ := ax_need0 hJ
        refine aw_idiv (n := 154) d_Tokens_cutNumber_153 rfl h4 ?_
        refine aw_iadd (n := 155) d_Tokens_cutNumber_154 rfl ?_
        obtain ⟨h5, hJ⟩ := ax_need hJ
        refine as_6 (n := 156) d_Tokens_cutNumber_155 rfl h5 ?_
        obtain ⟨σ8, eσ8, hJ⟩ := ax_letE hJ
        refine aw_let eσ8 ?_
        refine aw_iconst (n := 157) (v := 2) d_Tokens_cutNumber_156 rfl (by decide) ?_
        exact aw_iret d_Tokens_cutNumber_157 rfl (ax_ret hJ)
      · rw [if_neg c8] at hJ
        refine aw_iconst (n := 115) (v := 1) d_Tokens_cutNumber_114 rfl (by decide) ?_
        exact aw_iret d_Tokens_cutNumber_115 rfl (ax_ret hJ)
set_option maxHeartbeats 1000000 in
theorem t_Tokens_cutNumber_68 {N : Nat} {g : ax_G} {r9 : Int32} {s9 : St} (x : ax_X) (A : Nat → Prop) : ∀ (t0 : Int32) (l1 : Int32) (l2 : Int32) (l3 : Int32) (σ : St), J_Tokens_cutNumber_68 N t0 l1 l2 l3 σ = some (r9, s9) → AW x μ_Tokens_cutNumber g A (wC g) (0, 0) (ax_QI x μ_Tokens_cutNumber g A (wC g) (ax_eqI r9 s9)) 68 [(0, .ref (g.2.1 1)), (1, .int l1), (2, .int l2), (3, .int l3)] [.int t0, .ref (g.2.1 1)] σ := by
  intro t0 l1 l2 l3 σ hJ
  rw [J_Tokens_cutNumber_68] at hJ
  refine pf_Tokens_next (n := 71) d_Tokens_cutNumber_68 rfl kf_Tokens_44 ?_
  obtain ⟨σ4, eσ4, hJ⟩ := ax_letE hJ
  refine aw_let eσ4 ?_
  refine aw_iload_n (n := 72) d_Tokens_cutNumber_71 rfl rfl 3 rfl ?_
  refine aw_if_eq (n := 75) (t := 86) d_Tokens_cutNumber_72 rfl (by decide) (fun c5 => ?_) (fun c5 => ?_)
  · rw [if_pos c5] at hJ
    refine aw_iconst (n := 87) (v := 0) d_Tokens_cutNumber_86 rfl (by decide) ?_
    refine aw_sub [0, 1, 2] rfl ?_
    exact t_Tokens_cutNumber_87 x A _ _ _ _ hJ
  · rw [if_neg c5] at hJ
    refine aw_aload_n (n := 76) d_Tokens_cutNumber_75 rfl rfl 0 rfl ?_
    refine gf_Tokens_next (n := 79) d_Tokens_cutNumber_76 rfl kf_Tokens_44 ?_
    refine aw_iload_n (n := 80) d_Tokens_cutNumber_79 rfl rfl 2 rfl ?_
    refine aw_isub (n := 81) d_Tokens_cutNumber_80 rfl ?_
    refine aw_iconst (n := 82) (v := 1) d_Tokens_cutNumber_81 rfl (by decide) ?_
    refine aw_isub (n := 83) d_Tokens_cutNumber_82 rfl ?_
    refine aw_goto (t := 87) d_Tokens_cutNumber_83 (by decide) ?_
    refine aw_sub [0, 1, 2] rfl ?_
    exact t_Tokens_cutNumber_87 x A _ _ _ _ hJ
set_option maxHeartbeats 1000000 in
theorem t_Tokens_cutNumber_51 {N : Nat} {g : ax_G} {r9 : Int32} {s9 : St} (x : ax_X) (A : Nat → Prop) : ∀ (t0 : Int32) (l1 : Int32) (l2 : Int32) (σ : St), J_Tokens_cutNumber_51 N t0 l1 l2 σ = some (r9, s9) → AW x μ_Tokens_cutNumber g A (wC g) (0, 0) (ax_QI x μ_Tokens_cutNumber g A (wC g) (ax_eqI r9 s9)) 51 [(0, .ref (g.2.1 1)), (1, .int l1), (2, .int l2)] [.int t0] σ := by
  intro t0 l1 l2 σ hJ
  rw [J_Tokens_cutNumber_51] at hJ
  refine aw_istore_n (n := 52) d_Tokens_cutNumber_51 rfl rfl (by decide) rfl ?_
  refine aw_aload_n (n := 53) d_Tokens_cutNumber_52 rfl rfl 1 rfl ?_
  refine aw_iload_n (n := 54) d_Tokens_cutNumber_53 rfl rfl 0 rfl ?_
  refine aw_if_eq (n := 57) (t := 67) d_Tokens_cutNumber_54 rfl (by decide) (fun c4 => ?_) (fun c4 => ?_)
  · rw [if_pos c4] at hJ
    refine aw_iload_n (n := 68) d_Tokens_cutNumber_67 rfl rfl 3 rfl ?_
    refine aw_sub [1, 2, 3, 0] rfl ?_
    exact t_Tokens_cutNumber_68 x A _ _ _ _ _ hJ
  · rw [if_neg c4] at hJ
    refine aw_aload_n (n := 58) d_Tokens_cutNumber_57 rfl rfl 1 rfl ?_
    refine aw_iload_n (n := 59) d_Tokens_cutNumber_58 rfl rfl 3 rfl ?_
    refine aw_iconst (n := 60) (v := 1) d_Tokens_cutNumber_59 rfl (by decide) ?_
    refine aw_iadd (n := 61) d_Tokens_cutNumber_60 rfl ?_
    obtain ⟨r3, σ3, hc3, hJ⟩ := ax_bindE hJ
    refine aw_callVi (n := 64) (c_Tokens_endOfDigits hc3) 1 rfl rfl Y_Tokens_endOfDigits km_Tokens_76 (by decide) (by decide) rfl rfl (Nat.le_of_ble_eq_true rfl) d_Tokens_cutNumber_61 rfl (fun r9 s9 hp => ?_)
    obtain ⟨rfl, rfl⟩ := hp
    refine aw_goto (t := 68) d_Tokens_cutNumber_64 (by decide) ?_
    refine aw_sub [1, 2, 3, 0] rfl ?_
    exact t_Tokens_cutNumber_68 x A _ _ _ _ _ hJ
set_option maxHeartbeats 1000000 in
theorem t_Tokens_cutNumber_50 {N : Nat} {g : ax_G} {r9 : Int32} {s9 : St} (x : ax_X) (A : Nat → Prop) : ∀ (l1 : Int32) (l2 : Int32) (σ : St), J_Tokens_cutNumber_50 N l1 l2 σ = some (r9, s9) → AW x μ_Tokens_cutNumber g A (wC g) (0, 0) (ax_QI x μ_Tokens_cutNumber g A (wC g) (ax_eqI r9 s9)) 50 [(0, .ref (g.2.1 1)), (1, .int l1), (2, .int l2)] [] σ := by
  intro l1 l2 σ hJ
  rw [J_Tokens_cutNumber_50] at hJ
  refine aw_iconst (n := 51) (v := 0) d_Tokens_cutNumber_50 rfl (by decide) ?_
  exact t_Tokens_cutNumber_51 x A _ _ _ _ hJ
set_option maxHeartbeats 1000000 in
theorem c_Tokens_cutNumber {N : Nat} {g : ax_G} {σ : St} {r9 : Int32} {s9 : St} (hJ : J_Tokens_cutNumber N σ = some (r9, s9)) : ax_CI μ_Tokens_cutNumber g y_Tokens_cutNumber (wC g) [.ref (g.2.1 1)] σ (ax_eqI r9 s9) := by
  refine ax_CI.of (plainFor_of_name rfl) rfl (Nat.le_of_ble_eq_true rfl) (fun x A _ => ?_)
  show AW x μ_Tokens_cutNumber g A (wC g) (0, 0) (ax_QI x μ_Tokens_cutNumber g A (wC g) (ax_eqI r9 s9)) 0 [(0, .ref (g.2.1 1))] [] σ
  rw [J_Tokens_cutNumber] at hJ
  refine aw_aload_n (n := 1) d_Tokens_cutNumber_0 rfl rfl 0 rfl ?_
  refine gf_Tokens_next (n := 4) d_Tokens_cutNumber_1 rfl kf_Tokens_44 ?_
  obtain ⟨v1, ev1, hJ⟩ := ax_letE hJ
  refine aw_top ev1 ?_
  refine aw_istore_n (n := 5) d_Tokens_cutNumber_4 rfl rfl (by decide) rfl ?_
  refine aw_aload_n (n := 6) d_Tokens_cutNumber_5 rfl rfl 1 rfl ?_
  refine aw_iload_n (n := 7) d_Tokens_cutNumber_6 rfl rfl 0 rfl ?_
  obtain ⟨r1, σ1, hc1, hJ⟩ := ax_bindE hJ
  refine aw_callVi (n := 10) (c_Tokens_endOfDigits hc1) 1 rfl rfl Y_Tokens_endOfDigits km_Tokens_76 (by decide) (by decide) rfl rfl (Nat.le_of_ble_eq_true rfl) d_Tokens_cutNumber_7 rfl (fun r9 s9 hp => ?_)
  obtain ⟨rfl, rfl⟩ := hp
  refine aw_istore_n (n := 11) d_Tokens_cutNumber_10 rfl rfl (by decide) rfl ?_
  refine aw_iload_n (n := 12) d_Tokens_cutNumber_11 rfl rfl 0 rfl ?_
  refine aw_iconst (n := 13) (v := 1) d_Tokens_cutNumber_12 rfl (by decide) ?_
  refine aw_iadd (n := 14) d_Tokens_cutNumber_13 rfl ?_
  refine aw_aload_n (n := 15) d_Tokens_cutNumber_14 rfl rfl 2 rfl ?_
  refine gf_Tokens_length (n := 18) d_Tokens_cutNumber_15 rfl kf_Tokens_40 ?_
  refine aw_icmp_ge (n := 21) (t := 50) d_Tokens_cutNumber_18 rfl (by decide) (fun c1 => ?_) (fun c1 => ?_)
  · rw [if_pos c1] at hJ
    refine aw_sub [2, 1, 0] rfl ?_
    exact t_Tokens_cutNumber_50 x A _ _ _ hJ
  · rw [if_neg c1] at hJ
    refine aw_aload_n (n := 22) d_Tokens_cutNumber_21 rfl rfl 2 rfl ?_
    refine gf_Tokens_text (n := 25) d_Tokens_cutNumber_22 rfl kf_Tokens_15 ?_
    refine aw_iload_n (n := 26) d_Tokens_cutNumber_25 rfl rfl 0 rfl ?_
    obtain ⟨h1, hJ⟩ := ax_need hJ
    refine al_3 (n := 27) d_Tokens_cutNumber_26 rfl h1 ?_
    refine aw_bipush (n := 29) (v := 46) d_Tokens_cutNumber_27 rfl (by decide) ?_
    refine aw_icmp_ne (n := 32) (t := 50) d_Tokens_cutNumber_29 rfl (by decide) (fun c2 => ?_) (fun c2 => ?_)
    · rw [if_neg c2] at hJ
      refine aw_sub [2, 1, 0] rfl ?_
      exact t_Tokens_cutNumber_50 x A _ _ _ hJ
    · rw [if_pos c2] at hJ
      refine aw_aload_n (n := 33) d_Tokens_cutNumber_32 rfl rfl 2 rfl ?_
      refine gf_Tokens_text (n := 36) d_Tokens_cutNumber_33 rfl kf_Tokens_15 ?_
      refine aw_iload_n (n := 37) d_Tokens_cutNumber_36 rfl rfl 0 rfl ?_
      refine aw_iconst (n := 38) (v := 1) d_Tokens_cutNumber_37 rfl (by decide) ?_
      refine aw_iadd (n := 39) d_Tokens_cutNumber_38 rfl ?_
      obtain ⟨h2, hJ⟩ := ax_need hJ
      refine al_3 (n := 40) d_Tokens_cutNumber_39 rfl h2 ?_
      obtain ⟨r2, σ2, hc2, hJ⟩ := ax_bindE hJ
      refine aw_callSi (n := 43) (c_Tokens_isDigit hc2) Y_Tokens_isDigit km_Tokens_61 (by decide) (by decide) rfl rfl (Nat.le_of_ble_eq_true rfl) d_Tokens_cutNumber_40 rfl (fun r9 s9 hp => ?_)
      obtain ⟨rfl, rfl, hb1⟩ := hp
      refine aw_if_eq (n := 46) (t := 50) d_Tokens_cutNumber_43 rfl (by decide) (fun c3 => ?_) (fun c3 => ?_)
      · rw [if_pos c3] at hJ
        refine aw_sub [2, 1, 0] rfl ?_
        exact t_Tokens_cutNumber_50 x A _ _ _ hJ
      · rw [if_neg c3] at hJ
        refine aw_iconst (n := 47) (v := 1) d_Tokens_cutNumber_46 rfl (by decide) ?_
        refine aw_goto (t := 51) d_Tokens_cutNumber_47 (by decide) ?_
        refine aw_sub [2, 1, 0] rfl ?_
        exact t_Tokens_cutNumber_51 x A _ _ _ _ hJ
abbrev b_Tokens_kindOfWord : ByteArray := prog_8_method_7_code
def y_Tokens_kindOfWord : MethodName := ⟨"DotConsole$Tokens", "kindOfWord", "(I)I"⟩
theorem d_Tokens_kindOfWord_0 : decode b_Tokens_kindOfWord 0 = .ok (.iconst 0, 1) := by decide +kernel
theorem d_Tokens_kindOfWord_1 : decode b_Tokens_kindOfWord 1 = .ok (.istore_n 2, 1) := by decide +kernel
theorem d_Tokens_kindOfWord_2 : decode b_Tokens_kindOfWord 2 = .ok (.iload_n 2, 1) := by decide +kernel
theorem d_Tokens_kindOfWord_3 : decode b_Tokens_kindOfWord 3 = .ok (.aload_n 0, 1) := by decide +kernel
theorem d_Tokens_kindOfWord_4 : decode b_Tokens_kindOfWord 4 = .ok (.getfield 9, 3) := by decide +kernel
theorem d_Tokens_kindOfWord_7 : decode b_Tokens_kindOfWord 7 = .ok (.arraylength, 1) := by decide +kernel
theorem d_Tokens_kindOfWord_8 : decode b_Tokens_kindOfWord 8 = .ok (.if_icmp .ge 23, 3) := by decide +kernel
theorem d_Tokens_kindOfWord_11 : decode b_Tokens_kindOfWord 11 = .ok (.aload_n 0, 1) := by decide +kernel
theorem d_Tokens_kindOfWord_12 : decode b_Tokens_kindOfWord 12 = .ok (.getfield 9, 3) := by decide +kernel
theorem d_Tokens_kindOfWord_15 : decode b_Tokens_kindOfWord 15 = .ok (.iload_n 2, 1) := by decide +kernel
theorem d_Tokens_kindOfWord_16 : decode b_Tokens_kindOfWord 16 = .ok (.iaload, 1) := by decide +kernel
theorem d_Tokens_kindOfWord_17 : decode b_Tokens_kindOfWord 17 = .ok (.iload_n 1, 1) := by decide +kernel
theorem d_Tokens_kindOfWord_18 : decode b_Tokens_kindOfWord 18 = .ok (.if_icmp .ne 7, 3) := by decide +kernel
theorem d_Tokens_kindOfWord_21 : decode b_Tokens_kindOfWord 21 = .ok (.iconst 4, 1) := by decide +kernel
theorem d_Tokens_kindOfWord_22 : decode b_Tokens_kindOfWord 22 = .ok (.iload_n 2, 1) := by decide +kernel
theorem d_Tokens_kindOfWord_23 : decode b_Tokens_kindOfWord 23 = .ok (.iadd, 1) := by decide +kernel
theorem d_Tokens_kindOfWord_24 : decode b_Tokens_kindOfWord 24 = .ok (.ireturn, 1) := by decide +kernel
theorem d_Tokens_kindOfWord_25 : decode b_Tokens_kindOfWord 25 = .ok (.iinc 2 1, 3) := by decide +kernel
theorem d_Tokens_kindOfWord_28 : decode b_Tokens_kindOfWord 28 = .ok (.goto (-26), 3) := by decide +kernel
theorem d_Tokens_kindOfWord_31 : decode b_Tokens_kindOfWord 31 = .ok (.iconst 3, 1) := by decide +kernel
theorem d_Tokens_kindOfWord_32 : decode b_Tokens_kindOfWord 32 = .ok (.ireturn, 1) := by decide +kernel
def μ_Tokens_kindOfWord : ax_M := (b_Tokens_kindOfWord, 3, "DotConsole$Tokens", (some .int), 0, 0, 0, 0)
theorem Y_Tokens_kindOfWord : ax_YV μ_Tokens_kindOfWord y_Tokens_kindOfWord 1 := ⟨⟨ax_mem (by decide +kernel) rfl, ax_mem (by decide +kernel) rfl, by decide, by decide, by decide +kernel⟩, ax_mem (by decide +kernel) rfl, ax_mem (by decide +kernel) rfl⟩
theorem kf_Tokens_9 : Cond.fieldLink "DotConsole$Tokens" 9 "DotConsole$Tokens" "wordKeys" "[I" ∈ ax_T := ax_mem (by decide +kernel) rfl
def J_Tokens_kindOfWord_2 (N : Nat) : Nat → Int32 → Int32 → St → Option (Int32 × St)
  | 0, _, _, _ => none
  | n + 1, l1, l2, σ => (if 17 ≤ l2 then
  some (3, σ)
  else (if (inB l2 17) = true then (if (σ.2 0 l2.toNatClampNeg) = l1 then
  some ((4 + l2), σ)
  else ax_let ((l2 + 1) : Int32) (fun v1 =>
  J_Tokens_kindOfWord_2 N n l1 v1 σ)) else none))
def J_Tokens_kindOfWord (N : Nat) (a1 : Int32) (σ : St) : Option (Int32 × St) :=
  J_Tokens_kindOfWord_2 N N a1 0 σ
set_option maxHeartbeats 1000000 in
theorem t_Tokens_kindOfWord_2 {N : Nat} {g : ax_G} {r9 : Int32} {s9 : St} (x : ax_X) (A : Nat → Prop) : ∀ (n : Nat) (l1 : Int32) (l2 : Int32) (σ : St), J_Tokens_kindOfWord_2 N n l1 l2 σ = some (r9, s9) → AW x μ_Tokens_kindOfWord g A (wC g) (0, 0) (ax_QI x μ_Tokens_kindOfWord g A (wC g) (ax_eqI r9 s9)) 2 [(0, .ref (g.2.1 1)), (1, .int l1), (2, .int l2)] [] σ := by
  intro n
  induction n with
  | zero => intro l1 l2 σ hJ; rw [J_Tokens_kindOfWord_2] at hJ; cases hJ
  | succ n ih =>
    intro l1 l2 σ hJ
    rw [J_Tokens_kindOfWord_2] at hJ
    refine aw_iload_n (n := 3) d_Tokens_kindOfWord_2 rfl rfl 2 rfl ?_
    refine aw_aload_n (n := 4) d_Tokens_kindOfWord_3 rfl rfl 0 rfl ?_
    refine gf_Tokens_wordKeys (n := 7) d_Tokens_kindOfWord_4 rfl kf_Tokens_9 ?_
    refine an_2 (n := 8) d_Tokens_kindOfWord_7 rfl ?_
    refine aw_icmp_ge (n := 11) (t := 31) d_Tokens_kindOfWord_8 rfl (by decide) (fun c1 => ?_) (fun c1 => ?_)
    · rw [if_pos c1] at hJ
      refine aw_iconst (n := 32) (v := 3) d_Tokens_kindOfWord_31 rfl (by decide) ?_
      exact aw_iret d_Tokens_kindOfWord_32 rfl (ax_ret hJ)
    · rw [if_neg c1] at hJ
      refine aw_aload_n (n := 12) d_Tokens_kindOfWord_11 rfl rfl 0 rfl ?_
      refine gf_Tokens_wordKeys (n := 15) d_Tokens_kindOfWord_12 rfl kf_Tokens_9 ?_
      refine aw_iload_n (n := 16) d_Tokens_kindOfWord_15 rfl rfl 2 rfl ?_
      obtain ⟨h1, hJ⟩ := ax_need hJ
      refine al_2 (n := 17) d_Tokens_kindOfWord_16 rfl h1 ?_
      refine aw_iload_n (n := 18) d_Tokens_kindOfWord_17 rfl rfl 1 rfl ?_
      refine aw_icmp_ne (n := 21) (t := 25) d_Tokens_kindOfWord_18 rfl (by decide) (fun c2 => ?_) (fun c2 => ?_)
      · rw [if_neg c2] at hJ
        obtain ⟨v1, ev1, hJ⟩ := ax_letE hJ
        refine aw_iinc (n := 28) (j := 2) (v := v1) d_Tokens_kindOfWord_25 rfl rfl (ev1) (by decide) rfl ?_
        refine aw_goto (t := 2) d_Tokens_kindOfWord_28 (by decide) ?_
        refine aw_sub [1, 2, 0] rfl ?_
        exact ih _ _ _ hJ
      · rw [if_pos c2] at hJ
        refine aw_iconst (n := 22) (v := 4) d_Tokens_kindOfWord_21 rfl (by decide) ?_
        refine aw_iload_n (n := 23) d_Tokens_kindOfWord_22 rfl rfl 2 rfl ?_
        refine aw_iadd (n := 24) d_Tokens_kindOfWord_23 rfl ?_
        exact aw_iret d_Tokens_kindOfWord_24 rfl (ax_ret hJ)
set_option maxHeartbeats 1000000 in
theorem c_Tokens_kindOfWord {N : Nat} {g : ax_G} {a1 : Int32} {σ : St} {r9 : Int32} {s9 : St} (hJ : J_Tokens_kindOfWord N a1 σ = some (r9, s9)) : ax_CI μ_Tokens_kindOfWord g y_Tokens_kindOfWord (wC g) [.ref (g.2.1 1), .int a1] σ (ax_eqI r9 s9) := by
  refine ax_CI.of (plainFor_of_name rfl) rfl (Nat.le_of_ble_eq_true rfl) (fun x A _ => ?_)
  show AW x μ_Tokens_kindOfWord g A (wC g) (0, 0) (ax_QI x μ_Tokens_kindOfWord g A (wC g) (ax_eqI r9 s9)) 0 [(0, .ref (g.2.1 1)), (1, .int a1)] [] σ
  rw [J_Tokens_kindOfWord] at hJ
  refine aw_iconst (n := 1) (v := 0) d_Tokens_kindOfWord_0 rfl (by decide) ?_
  refine aw_istore_n (n := 2) d_Tokens_kindOfWord_1 rfl rfl (by decide) rfl ?_
  refine aw_sub [1, 2, 0] rfl ?_
  exact t_Tokens_kindOfWord_2 x A N _ _ _ hJ
