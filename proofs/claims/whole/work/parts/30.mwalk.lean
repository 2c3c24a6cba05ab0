/-! WALKED: Mod_feed, Mod_letter, Mod_digit, Mod_sign, Mod_wordKind, Mod_numberOf, Mod_nameOf. Printed by wip/whole/build.py. -/
abbrev b_Mod_feed : ByteArray := prog_10_method_2_code
def y_Mod_feed : MethodName := ⟨"DotConsoleModel", "feed", "(I)I"⟩
theorem d_Mod_feed_0 : decode b_Mod_feed 0 = .ok (.iload_n 1, 1) := by decide +kernel
theorem d_Mod_feed_1 : decode b_Mod_feed 1 = .ok (.bipush 32, 2) := by decide +kernel
theorem d_Mod_feed_3 : decode b_Mod_feed 3 = .ok (.if_icmp .lt 9, 3) := by decide +kernel
theorem d_Mod_feed_6 : decode b_Mod_feed 6 = .ok (.iload_n 1, 1) := by decide +kernel
theorem d_Mod_feed_7 : decode b_Mod_feed 7 = .ok (.bipush 126, 2) := by decide +kernel
theorem d_Mod_feed_9 : decode b_Mod_feed 9 = .ok (.if_icmp .le 5, 3) := by decide +kernel
theorem d_Mod_feed_12 : decode b_Mod_feed 12 = .ok (.iconst (-1), 1) := by decide +kernel
theorem d_Mod_feed_13 : decode b_Mod_feed 13 = .ok (.ireturn, 1) := by decide +kernel
theorem d_Mod_feed_14 : decode b_Mod_feed 14 = .ok (.aload_n 0, 1) := by decide +kernel
theorem d_Mod_feed_15 : decode b_Mod_feed 15 = .ok (.getfield 66, 3) := by decide +kernel
theorem d_Mod_feed_18 : decode b_Mod_feed 18 = .ok (.bipush 48, 2) := by decide +kernel
theorem d_Mod_feed_20 : decode b_Mod_feed 20 = .ok (.if_icmp .ne 6, 3) := by decide +kernel
theorem d_Mod_feed_23 : decode b_Mod_feed 23 = .ok (.bipush (-2), 2) := by decide +kernel
theorem d_Mod_feed_25 : decode b_Mod_feed 25 = .ok (.ireturn, 1) := by decide +kernel
theorem d_Mod_feed_26 : decode b_Mod_feed 26 = .ok (.aload_n 0, 1) := by decide +kernel
theorem d_Mod_feed_27 : decode b_Mod_feed 27 = .ok (.getfield 7, 3) := by decide +kernel
theorem d_Mod_feed_30 : decode b_Mod_feed 30 = .ok (.aload_n 0, 1) := by decide +kernel
theorem d_Mod_feed_31 : decode b_Mod_feed 31 = .ok (.getfield 66, 3) := by decide +kernel
theorem d_Mod_feed_34 : decode b_Mod_feed 34 = .ok (.iload_n 1, 1) := by decide +kernel
theorem d_Mod_feed_35 : decode b_Mod_feed 35 = .ok (.i2c, 1) := by decide +kernel
theorem d_Mod_feed_36 : decode b_Mod_feed 36 = .ok (.castore, 1) := by decide +kernel
theorem d_Mod_feed_37 : decode b_Mod_feed 37 = .ok (.aload_n 0, 1) := by decide +kernel
theorem d_Mod_feed_38 : decode b_Mod_feed 38 = .ok (.dup, 1) := by decide +kernel
theorem d_Mod_feed_39 : decode b_Mod_feed 39 = .ok (.getfield 66, 3) := by decide +kernel
theorem d_Mod_feed_42 : decode b_Mod_feed 42 = .ok (.iconst 1, 1) := by decide +kernel
theorem d_Mod_feed_43 : decode b_Mod_feed 43 = .ok (.iadd, 1) := by decide +kernel
theorem d_Mod_feed_44 : decode b_Mod_feed 44 = .ok (.putfield 66, 3) := by decide +kernel
theorem d_Mod_feed_47 : decode b_Mod_feed 47 = .ok (.aload_n 0, 1) := by decide +kernel
theorem d_Mod_feed_48 : decode b_Mod_feed 48 = .ok (.getfield 66, 3) := by decide +kernel
theorem d_Mod_feed_51 : decode b_Mod_feed 51 = .ok (.ireturn, 1) := by decide +kernel
def μ_Mod_feed : ax_M := (b_Mod_feed, 2, "DotConsoleModel", (some .int), 0, 0, 0, 0)
theorem Y_Mod_feed : ax_YV μ_Mod_feed y_Mod_feed 1 := ⟨⟨ax_mem (by decide +kernel) rfl, ax_mem (by decide +kernel) rfl, by decide, by decide, by decide +kernel⟩, ax_mem (by decide +kernel) rfl, ax_mem (by decide +kernel) rfl⟩
theorem kf_Mod_66 : Cond.fieldLink "DotConsoleModel" 66 "DotConsoleModel" "length" "I" ∈ ax_T := ax_mem (by decide +kernel) rfl
theorem kf_Mod_7 : Cond.fieldLink "DotConsoleModel" 7 "DotConsoleModel" "text" "[C" ∈ ax_T := ax_mem (by decide +kernel) rfl
def J_Mod_feed (N : Nat) (a1 : Int32) (σ : St) : Option (Int32 × St) :=
  (if a1 < 32 then
  some ((-1), σ)
  else (if a1 ≤ 126 then
  (if (σ.1 0) = 48 then
  some ((-2), σ)
  else (if (inB (σ.1 0) 48) = true then ax_let (sA σ 0 (σ.1 0).toNatClampNeg (vp_nar .char ((a1.toUInt32 % 65536).toInt32))) (fun σ1 =>
  ax_let (sF σ1 0 ((σ1.1 0) + 1)) (fun σ2 =>
  some ((σ2.1 0), σ2))) else none))
  else some ((-1), σ)))
set_option maxHeartbeats 1000000 in
theorem c_Mod_feed {N : Nat} {g : ax_G} {a1 : Int32} {σ : St} {r9 : Int32} {s9 : St} (hJ : J_Mod_feed N a1 σ = some (r9, s9)) : ax_CI μ_Mod_feed g y_Mod_feed (wM g) [.ref (g.2.1 32), .int a1] σ (ax_eqI r9 s9) := by
  refine ax_CI.of (plainFor_of_name rfl) rfl (Nat.le_of_ble_eq_true rfl) (fun x A _ => ?_)
  show AW x μ_Mod_feed g A (wM g) (0, 0) (ax_QI x μ_Mod_feed g A (wM g) (ax_eqI r9 s9)) 0 [(0, .ref (g.2.1 32)), (1, .int a1)] [] σ
  rw [J_Mod_feed] at hJ
  refine aw_iload_n (n := 1) d_Mod_feed_0 rfl rfl 1 rfl ?_
  refine aw_bipush (n := 3) (v := 32) d_Mod_feed_1 rfl (by decide) ?_
  refine aw_icmp_lt (n := 6) (t := 12) d_Mod_feed_3 rfl (by decide) (fun c1 => ?_) (fun c1 => ?_)
  · rw [if_pos c1] at hJ
    refine aw_iconst (n := 13) (v := -1) d_Mod_feed_12 rfl (by decide) ?_
    exact aw_iret d_Mod_feed_13 rfl (ax_ret hJ)
  · rw [if_neg c1] at hJ
    refine aw_iload_n (n := 7) d_Mod_feed_6 rfl rfl 1 rfl ?_
    refine aw_bipush (n := 9) (v := 126) d_Mod_feed_7 rfl (by decide) ?_
    refine aw_icmp_le (n := 12) (t := 14) d_Mod_feed_9 rfl (by decide) (fun c2 => ?_) (fun c2 => ?_)
    · rw [if_pos c2] at hJ
      refine aw_aload_n (n := 15) d_Mod_feed_14 rfl rfl 0 rfl ?_
      refine gf_Mod_length (n := 18) d_Mod_feed_15 rfl kf_Mod_66 ?_
      refine aw_bipush (n := 20) (v := 48) d_Mod_feed_18 rfl (by decide) ?_
      refine aw_icmp_ne (n := 23) (t := 26) d_Mod_feed_20 rfl (by decide) (fun c3 => ?_) (fun c3 => ?_)
      · rw [if_neg c3] at hJ
        refine aw_aload_n (n := 27) d_Mod_feed_26 rfl rfl 0 rfl ?_
        refine gf_Mod_text (n := 30) d_Mod_feed_27 rfl kf_Mod_7 ?_
        refine aw_aload_n (n := 31) d_Mod_feed_30 rfl rfl 0 rfl ?_
        refine gf_Mod_length (n := 34) d_Mod_feed_31 rfl kf_Mod_66 ?_
        refine aw_iload_n (n := 35) d_Mod_feed_34 rfl rfl 1 rfl ?_
        refine aw_i2c (n := 36) d_Mod_feed_35 rfl rfl ?_
        obtain ⟨h1, hJ⟩ := ax_need hJ
        refine as_33 (n := 37) d_Mod_feed_36 rfl h1 ?_
        obtain ⟨σ1, eσ1, hJ⟩ := ax_letE hJ
        refine aw_let eσ1 ?_
        refine aw_aload_n (n := 38) d_Mod_feed_37 rfl rfl 0 rfl ?_
        refine aw_dup (n := 39) d_Mod_feed_38 rfl rfl ?_
        refine gf_Mod_length (n := 42) d_Mod_feed_39 rfl kf_Mod_66 ?_
        refine aw_iconst (n := 43) (v := 1) d_Mod_feed_42 rfl (by decide) ?_
        refine aw_iadd (n := 44) d_Mod_feed_43 rfl ?_
        refine pf_Mod_length (n := 47) d_Mod_feed_44 rfl kf_Mod_66 ?_
        obtain ⟨σ2, eσ2, hJ⟩ := ax_letE hJ
        refine aw_let eσ2 ?_
        refine aw_aload_n (n := 48) d_Mod_feed_47 rfl rfl 0 rfl ?_
        refine gf_Mod_length (n := 51) d_Mod_feed_48 rfl kf_Mod_66 ?_
        exact aw_iret d_Mod_feed_51 rfl (ax_ret hJ)
      · rw [if_pos c3] at hJ
        refine aw_bipush (n := 25) (v := -2) d_Mod_feed_23 rfl (by decide) ?_
        exact aw_iret d_Mod_feed_25 rfl (ax_ret hJ)
    · rw [if_neg c2] at hJ
      refine aw_iconst (n := 13) (v := -1) d_Mod_feed_12 rfl (by decide) ?_
      exact aw_iret d_Mod_feed_13 rfl (ax_ret hJ)
abbrev b_Mod_letter : ByteArray := prog_10_method_3_code
def y_Mod_letter : MethodName := ⟨"DotConsoleModel", "letter", "(I)Z"⟩
theorem d_Mod_letter_0 : decode b_Mod_letter 0 = .ok (.iload_n 1, 1) := by decide +kernel
theorem d_Mod_letter_1 : decode b_Mod_letter 1 = .ok (.aload_n 0, 1) := by decide +kernel
theorem d_Mod_letter_2 : decode b_Mod_letter 2 = .ok (.getfield 66, 3) := by decide +kernel
theorem d_Mod_letter_5 : decode b_Mod_letter 5 = .ok (.if_icmp .ge 29, 3) := by decide +kernel
theorem d_Mod_letter_8 : decode b_Mod_letter 8 = .ok (.aload_n 0, 1) := by decide +kernel
theorem d_Mod_letter_9 : decode b_Mod_letter 9 = .ok (.getfield 7, 3) := by decide +kernel
theorem d_Mod_letter_12 : decode b_Mod_letter 12 = .ok (.iload_n 1, 1) := by decide +kernel
theorem d_Mod_letter_13 : decode b_Mod_letter 13 = .ok (.caload, 1) := by decide +kernel
theorem d_Mod_letter_14 : decode b_Mod_letter 14 = .ok (.bipush 97, 2) := by decide +kernel
theorem d_Mod_letter_16 : decode b_Mod_letter 16 = .ok (.if_icmp .lt 18, 3) := by decide +kernel
theorem d_Mod_letter_19 : decode b_Mod_letter 19 = .ok (.aload_n 0, 1) := by decide +kernel
theorem d_Mod_letter_20 : decode b_Mod_letter 20 = .ok (.getfield 7, 3) := by decide +kernel
theorem d_Mod_letter_23 : decode b_Mod_letter 23 = .ok (.iload_n 1, 1) := by decide +kernel
theorem d_Mod_letter_24 : decode b_Mod_letter 24 = .ok (.caload, 1) := by decide +kernel
theorem d_Mod_letter_25 : decode b_Mod_letter 25 = .ok (.bipush 122, 2) := by decide +kernel
theorem d_Mod_letter_27 : decode b_Mod_letter 27 = .ok (.if_icmp .gt 7, 3) := by decide +kernel
theorem d_Mod_letter_30 : decode b_Mod_letter 30 = .ok (.iconst 1, 1) := by decide +kernel
theorem d_Mod_letter_31 : decode b_Mod_letter 31 = .ok (.goto 4, 3) := by decide +kernel
theorem d_Mod_letter_34 : decode b_Mod_letter 34 = .ok (.iconst 0, 1) := by decide +kernel
theorem d_Mod_letter_35 : decode b_Mod_letter 35 = .ok (.ireturn, 1) := by decide +kernel
def μ_Mod_letter : ax_M := (b_Mod_letter, 2, "DotConsoleModel", (some .boolean), 0, 0, 0, 0)
theorem Y_Mod_letter : ax_YV μ_Mod_letter y_Mod_letter 1 := ⟨⟨ax_mem (by decide +kernel) rfl, ax_mem (by decide +kernel) rfl, by decide, by decide, by decide +kernel⟩, ax_mem (by decide +kernel) rfl, ax_mem (by decide +kernel) rfl⟩
def J_Mod_letter (N : Nat) (a1 : Int32) (σ : St) : Option (Int32 × St) :=
  (if (σ.1 0) ≤ a1 then
  some (0, σ)
  else (if (inB a1 48) = true then (if (σ.2 0 a1.toNatClampNeg) < 97 then
  some (0, σ)
  else (if (inB a1 48) = true then (if 122 < (σ.2 0 a1.toNatClampNeg) then
  some (0, σ)
  else some (1, σ)) else none)) else none))
set_option maxHeartbeats 1000000 in
theorem c_Mod_letter {N : Nat} {g : ax_G} {a1 : Int32} {σ : St} {r9 : Int32} {s9 : St} (hJ : J_Mod_letter N a1 σ = some (r9, s9)) : ax_CI μ_Mod_letter g y_Mod_letter (wM g) [.ref (g.2.1 32), .int a1] σ (ax_eqZ r9 s9) := by
  refine ax_CI.of (plainFor_of_name rfl) rfl (Nat.le_of_ble_eq_true rfl) (fun x A _ => ?_)
  show AW x μ_Mod_letter g A (wM g) (0, 0) (ax_QI x μ_Mod_letter g A (wM g) (ax_eqZ r9 s9)) 0 [(0, .ref (g.2.1 32)), (1, .int a1)] [] σ
  rw [J_Mod_letter] at hJ
  refine aw_iload_n (n := 1) d_Mod_letter_0 rfl rfl 1 rfl ?_
  refine aw_aload_n (n := 2) d_Mod_letter_1 rfl rfl 0 rfl ?_
  refine gf_Mod_length (n := 5) d_Mod_letter_2 rfl kf_Mod_66 ?_
  refine aw_icmp_ge (n := 8) (t := 34) d_Mod_letter_5 rfl (by decide) (fun c1 => ?_) (fun c1 => ?_)
  · rw [if_pos c1] at hJ
    refine aw_iconst (n := 35) (v := 0) d_Mod_letter_34 rfl (by decide) ?_
    exact aw_zret d_Mod_letter_35 rfl rfl (ax_retZ hJ rfl)
  · rw [if_neg c1] at hJ
    refine aw_aload_n (n := 9) d_Mod_letter_8 rfl rfl 0 rfl ?_
    refine gf_Mod_text (n := 12) d_Mod_letter_9 rfl kf_Mod_7 ?_
    refine aw_iload_n (n := 13) d_Mod_letter_12 rfl rfl 1 rfl ?_
    obtain ⟨h1, hJ⟩ := ax_need hJ
    refine al_33 (n := 14) d_Mod_letter_13 rfl h1 ?_
    refine aw_bipush (n := 16) (v := 97) d_Mod_letter_14 rfl (by decide) ?_
    refine aw_icmp_lt (n := 19) (t := 34) d_Mod_letter_16 rfl (by decide) (fun c2 => ?_) (fun c2 => ?_)
    · rw [if_pos c2] at hJ
      refine aw_iconst (n := 35) (v := 0) d_Mod_letter_34 rfl (by decide) ?_
      exact aw_zret d_Mod_letter_35 rfl rfl (ax_retZ hJ rfl)
    · rw [if_neg c2] at hJ
      refine aw_aload_n (n := 20) d_Mod_letter_19 rfl rfl 0 rfl ?_
      refine gf_Mod_text (n := 23) d_Mod_letter_20 rfl kf_Mod_7 ?_
      refine aw_iload_n (n := 24) d_Mod_letter_23 rfl rfl 1 rfl ?_
      obtain ⟨h2, hJ⟩ := ax_need hJ
      refine al_33 (n := 25) d_Mod_letter_24 rfl h2 ?_
      refine aw_bipush (n := 27) (v := 122) d_Mod_letter_25 rfl (by decide) ?_
      refine aw_icmp_gt (n := 30) (t := 34) d_Mod_letter_27 rfl (by decide) (fun c3 => ?_) (fun c3 => ?_)
      · rw [if_pos c3] at hJ
        refine aw_iconst (n := 35) (v := 0) d_Mod_letter_34 rfl (by decide) ?_
        exact aw_zret d_Mod_letter_35 rfl rfl (ax_retZ hJ rfl)
      · rw [if_neg c3] at hJ
        refine aw_iconst (n := 31) (v := 1) d_Mod_letter_30 rfl (by decide) ?_
        refine aw_goto (t := 35) d_Mod_letter_31 (by decide) ?_
        exact aw_zret d_Mod_letter_35 rfl rfl (ax_retZ hJ rfl)
abbrev b_Mod_digit : ByteArray := prog_10_method_4_code
def y_Mod_digit : MethodName := ⟨"DotConsoleModel", "digit", "(I)Z"⟩
theorem d_Mod_digit_0 : decode b_Mod_digit 0 = .ok (.iload_n 1, 1) := by decide +kernel
theorem d_Mod_digit_1 : decode b_Mod_digit 1 = .ok (.aload_n 0, 1) := by decide +kernel
theorem d_Mod_digit_2 : decode b_Mod_digit 2 = .ok (.getfield 66, 3) := by decide +kernel
theorem d_Mod_digit_5 : decode b_Mod_digit 5 = .ok (.if_icmp .ge 29, 3) := by decide +kernel
theorem d_Mod_digit_8 : decode b_Mod_digit 8 = .ok (.aload_n 0, 1) := by decide +kernel
theorem d_Mod_digit_9 : decode b_Mod_digit 9 = .ok (.getfield 7, 3) := by decide +kernel
theorem d_Mod_digit_12 : decode b_Mod_digit 12 = .ok (.iload_n 1, 1) := by decide +kernel
theorem d_Mod_digit_13 : decode b_Mod_digit 13 = .ok (.caload, 1) := by decide +kernel
theorem d_Mod_digit_14 : decode b_Mod_digit 14 = .ok (.bipush 48, 2) := by decide +kernel
theorem d_Mod_digit_16 : decode b_Mod_digit 16 = .ok (.if_icmp .lt 18, 3) := by decide +kernel
theorem d_Mod_digit_19 : decode b_Mod_digit 19 = .ok (.aload_n 0, 1) := by decide +kernel
theorem d_Mod_digit_20 : decode b_Mod_digit 20 = .ok (.getfield 7, 3) := by decide +kernel
theorem d_Mod_digit_23 : decode b_Mod_digit 23 = .ok (.iload_n 1, 1) := by decide +kernel
theorem d_Mod_digit_24 : decode b_Mod_digit 24 = .ok (.caload, 1) := by decide +kernel
theorem d_Mod_digit_25 : decode b_Mod_digit 25 = .ok (.bipush 57, 2) := by decide +kernel
theorem d_Mod_digit_27 : decode b_Mod_digit 27 = .ok (.if_icmp .gt 7, 3) := by decide +kernel
theorem d_Mod_digit_30 : decode b_Mod_digit 30 = .ok (.iconst 1, 1) := by decide +kernel
theorem d_Mod_digit_31 : decode b_Mod_digit 31 = .ok (.goto 4, 3) := by decide +kernel
theorem d_Mod_digit_34 : decode b_Mod_digit 34 = .ok (.iconst 0, 1) := by decide +kernel
theorem d_Mod_digit_35 : decode b_Mod_digit 35 = .ok (.ireturn, 1) := by decide +kernel
def μ_Mod_digit : ax_M := (b_Mod_digit, 2, "DotConsoleModel", (some .boolean), 0, 0, 0, 0)
theorem Y_Mod_digit : ax_YV μ_Mod_digit y_Mod_digit 1 := ⟨⟨ax_mem (by decide +kernel) rfl, ax_mem (by decide +kernel) rfl, by decide, by decide, by decide +kernel⟩, ax_mem (by decide +kernel) rfl, ax_mem (by decide +kernel) rfl⟩
def J_Mod_digit (N : Nat) (a1 : Int32) (σ : St) : Option (Int32 × St) :=
  (if (σ.1 0) ≤ a1 then
  some (0, σ)
  else (if (inB a1 48) = true then (if (σ.2 0 a1.toNatClampNeg) < 48 then
  some (0, σ)
  else (if (inB a1 48) = true then (if 57 < (σ.2 0 a1.toNatClampNeg) then
  some (0, σ)
  else some (1, σ)) else none)) else none))
set_option maxHeartbeats 1000000 in
theorem c_Mod_digit {N : Nat} {g : ax_G} {a1 : Int32} {σ : St} {r9 : Int32} {s9 : St} (hJ : J_Mod_digit N a1 σ = some (r9, s9)) : ax_CI μ_Mod_digit g y_Mod_digit (wM g) [.ref (g.2.1 32), .int a1] σ (ax_eqZ r9 s9) := by
  refine ax_CI.of (plainFor_of_name rfl) rfl (Nat.le_of_ble_eq_true rfl) (fun x A _ => ?_)
  show AW x μ_Mod_digit g A (wM g) (0, 0) (ax_QI x μ_Mod_digit g A (wM g) (ax_eqZ r9 s9)) 0 [(0, .ref (g.2.1 32)), (1, .int a1)] [] σ
  rw [J_Mod_digit] at hJ
  refine aw_iload_n (n := 1) d_Mod_digit_0 rfl rfl 1 rfl ?_
  refine aw_aload_n (n := 2) d_Mod_digit_1 rfl rfl 0 rfl ?_
  refine gf_Mod_length (n := 5) d_Mod_digit_2 rfl kf_Mod_66 ?_
  refine aw_icmp_ge (n := 8) (t := 34) d_Mod_digit_5 rfl (by decide) (fun c1 => ?_) (fun c1 => ?_)
  · rw [if_pos c1] at hJ
    refine aw_iconst (n := 35) (v := 0) d_Mod_digit_34 rfl (by decide) ?_
    exact aw_zret d_Mod_digit_35 rfl rfl (ax_retZ hJ rfl)
  · rw [if_neg c1] at hJ
    refine aw_aload_n (n := 9) d_Mod_digit_8 rfl rfl 0 rfl ?_
    refine gf_Mod_text (n := 12) d_Mod_digit_9 rfl kf_Mod_7 ?_
    refine aw_iload_n (n := 13) d_Mod_digit_12 rfl rfl 1 rfl ?_
    obtain ⟨h1, hJ⟩ := ax_need hJ
    refine al_33 (n := 14) d_Mod_digit_13 rfl h1 ?_
    refine aw_bipush (n := 16) (v := 48) d_Mod_digit_14 rfl (by decide) ?_
    refine aw_icmp_lt (n := 19) (t := 34) d_Mod_digit_16 rfl (by decide) (fun c2 => ?_) (fun c2 => ?_)
    · rw [if_pos c2] at hJ
      refine aw_iconst (n := 35) (v := 0) d_Mod_digit_34 rfl (by decide) ?_
      exact aw_zret d_Mod_digit_35 rfl rfl (ax_retZ hJ rfl)
    · rw [if_neg c2] at hJ
      refine aw_aload_n (n := 20) d_Mod_digit_19 rfl rfl 0 rfl ?_
      refine gf_Mod_text (n := 23) d_Mod_digit_20 rfl kf_Mod_7 ?_
      refine aw_iload_n (n := 24) d_Mod_digit_23 rfl rfl 1 rfl ?_
      obtain ⟨h2, hJ⟩ := ax_need hJ
      refine al_33 (n := 25) d_Mod_digit_24 rfl h2 ?_
      refine aw_bipush (n := 27) (v := 57) d_Mod_digit_25 rfl (by decide) ?_
      refine aw_icmp_gt (n := 30) (t := 34) d_Mod_digit_27 rfl (by decide) (fun c3 => ?_) (fun c3 => ?_)
      · rw [if_pos c3] at hJ
        refine aw_iconst (n := 35) (v := 0) d_Mod_digit_34 rfl (by decide) ?_
        exact aw_zret d_Mod_digit_35 rfl rfl (ax_retZ hJ rfl)
      · rw [if_neg c3] at hJ
        refine aw_iconst (n := 31) (v := 1) d_Mod_digit_30 rfl (by decide) ?_
        refine aw_goto (t := 35) d_Mod_digit_31 (by decide) ?_
        exact aw_zret d_Mod_digit_35 rfl rfl (ax_retZ hJ rfl)
abbrev b_Mod_sign : ByteArray := prog_10_method_6_code
def y_Mod_sign : MethodName := ⟨"DotConsoleModel", "sign", "(C)Z"⟩
theorem d_Mod_sign_0 : decode b_Mod_sign 0 = .ok (.iload_n 0, 1) := by decide +kernel
theorem d_Mod_sign_1 : decode b_Mod_sign 1 = .ok (.bipush 37, 2) := by decide +kernel
theorem d_Mod_sign_3 : decode b_Mod_sign 3 = .ok (.if_icmp .lt 15, 3) := by decide +kernel
theorem d_Mod_sign_6 : decode b_Mod_sign 6 = .ok (.iload_n 0, 1) := by decide +kernel
theorem d_Mod_sign_7 : decode b_Mod_sign 7 = .ok (.bipush 45, 2) := by decide +kernel
theorem d_Mod_sign_9 : decode b_Mod_sign 9 = .ok (.if_icmp .gt 9, 3) := by decide +kernel
theorem d_Mod_sign_12 : decode b_Mod_sign 12 = .ok (.iload_n 0, 1) := by decide +kernel
theorem d_Mod_sign_13 : decode b_Mod_sign 13 = .ok (.bipush 39, 2) := by decide +kernel
theorem d_Mod_sign_15 : decode b_Mod_sign 15 = .ok (.if_icmp .ne 45, 3) := by decide +kernel
theorem d_Mod_sign_18 : decode b_Mod_sign 18 = .ok (.iload_n 0, 1) := by decide +kernel
theorem d_Mod_sign_19 : decode b_Mod_sign 19 = .ok (.bipush 47, 2) := by decide +kernel
theorem d_Mod_sign_21 : decode b_Mod_sign 21 = .ok (.if_icmp .eq 39, 3) := by decide +kernel
theorem d_Mod_sign_24 : decode b_Mod_sign 24 = .ok (.iload_n 0, 1) := by decide +kernel
theorem d_Mod_sign_25 : decode b_Mod_sign 25 = .ok (.bipush 60, 2) := by decide +kernel
theorem d_Mod_sign_27 : decode b_Mod_sign 27 = .ok (.if_icmp .eq 33, 3) := by decide +kernel
theorem d_Mod_sign_30 : decode b_Mod_sign 30 = .ok (.iload_n 0, 1) := by decide +kernel
theorem d_Mod_sign_31 : decode b_Mod_sign 31 = .ok (.bipush 62, 2) := by decide +kernel
theorem d_Mod_sign_33 : decode b_Mod_sign 33 = .ok (.if_icmp .eq 27, 3) := by decide +kernel
theorem d_Mod_sign_36 : decode b_Mod_sign 36 = .ok (.iload_n 0, 1) := by decide +kernel
theorem d_Mod_sign_37 : decode b_Mod_sign 37 = .ok (.bipush 61, 2) := by decide +kernel
theorem d_Mod_sign_39 : decode b_Mod_sign 39 = .ok (.if_icmp .eq 21, 3) := by decide +kernel
theorem d_Mod_sign_42 : decode b_Mod_sign 42 = .ok (.iload_n 0, 1) := by decide +kernel
theorem d_Mod_sign_43 : decode b_Mod_sign 43 = .ok (.bipush 124, 2) := by decide +kernel
theorem d_Mod_sign_45 : decode b_Mod_sign 45 = .ok (.if_icmp .eq 15, 3) := by decide +kernel
theorem d_Mod_sign_48 : decode b_Mod_sign 48 = .ok (.iload_n 0, 1) := by decide +kernel
theorem d_Mod_sign_49 : decode b_Mod_sign 49 = .ok (.bipush 33, 2) := by decide +kernel
theorem d_Mod_sign_51 : decode b_Mod_sign 51 = .ok (.if_icmp .eq 9, 3) := by decide +kernel
theorem d_Mod_sign_54 : decode b_Mod_sign 54 = .ok (.iload_n 0, 1) := by decide +kernel
theorem d_Mod_sign_55 : decode b_Mod_sign 55 = .ok (.bipush 64, 2) := by decide +kernel
theorem d_Mod_sign_57 : decode b_Mod_sign 57 = .ok (.if_icmp .ne 7, 3) := by decide +kernel
theorem d_Mod_sign_60 : decode b_Mod_sign 60 = .ok (.iconst 1, 1) := by decide +kernel
theorem d_Mod_sign_61 : decode b_Mod_sign 61 = .ok (.goto 4, 3) := by decide +kernel
theorem d_Mod_sign_64 : decode b_Mod_sign 64 = .ok (.iconst 0, 1) := by decide +kernel
theorem d_Mod_sign_65 : decode b_Mod_sign 65 = .ok (.ireturn, 1) := by decide +kernel
def μ_Mod_sign : ax_M := (b_Mod_sign, 1, "DotConsoleModel", (some .boolean), 0, 0, 0, 0)
theorem Y_Mod_sign : ax_YS μ_Mod_sign y_Mod_sign 1 := ⟨⟨ax_mem (by decide +kernel) rfl, ax_mem (by decide +kernel) rfl, by decide, by decide, by decide +kernel⟩, ax_mem (by decide +kernel) rfl⟩
def J_Mod_sign_18 (N : Nat) (l0 : Int32) (σ : St) : Option (Int32 × St) :=
  (if l0 = 47 then
  some (1, σ)
  else (if l0 = 60 then
  some (1, σ)
  else (if l0 = 62 then
  some (1, σ)
  else (if l0 = 61 then
  some (1, σ)
  else (if l0 = 124 then
  some (1, σ)
  else (if l0 = 33 then
  some (1, σ)
  else (if l0 = 64 then
  some (1, σ)
  else some (0, σ))))))))
def J_Mod_sign (N : Nat) (a0 : Int32) (σ : St) : Option (Int32 × St) :=
  (if a0 < 37 then
  J_Mod_sign_18 N a0 σ
  else (if 45 < a0 then
  J_Mod_sign_18 N a0 σ
  else (if a0 = 39 then
  J_Mod_sign_18 N a0 σ
  else some (1, σ))))
set_option maxHeartbeats 1000000 in
theorem t_Mod_sign_18 {N : Nat} {g : ax_G} {r9 : Int32} {s9 : St} (x : ax_X) (A : Nat → Prop) : ∀ (l0 : Int32) (σ : St), J_Mod_sign_18 N l0 σ = some (r9, s9) → AW x μ_Mod_sign g A (wM g) (0, 0) (ax_QI x μ_Mod_sign g A (wM g) (ax_eqZ r9 s9)) 18 [(0, .int l0)] [] σ := by
  intro l0 σ hJ
  rw [J_Mod_sign_18] at hJ
  refine aw_iload_n (n := 19) d_Mod_sign_18 rfl rfl 0 rfl ?_
  refine aw_bipush (n := 21) (v := 47) d_Mod_sign_19 rfl (by decide) ?_
  refine aw_icmp_eq (n := 24) (t := 60) d_Mod_sign_21 rfl (by decide) (fun c4 => ?_) (fun c4 => ?_)
  · rw [if_pos c4] at hJ
    refine aw_iconst (n := 61) (v := 1) d_Mod_sign_60 rfl (by decide) ?_
    refine aw_goto (t := 65) d_Mod_sign_61 (by decide) ?_
    exact aw_zret d_Mod_sign_65 rfl rfl (ax_retZ hJ rfl)
  · rw [if_neg c4] at hJ
    refine aw_iload_n (n := 25) d_Mod_sign_24 rfl rfl 0 rfl ?_
    refine aw_bipush (n := 27) (v := 60) d_Mod_sign_25 rfl (by decide) ?_
    refine aw_icmp_eq (n := 30) (t := 60) d_Mod_sign_27 rfl (by decide) (fun c5 => ?_) (fun c5 => ?_)
    · rw [if_pos c5] at hJ
      refine aw_iconst (n := 61) (v := 1) d_Mod_sign_60 rfl (by decide) ?_
      refine aw_goto (t := 65) d_Mod_sign_61 (by decide) ?_
      exact aw_zret d_Mod_sign_65 rfl rfl (ax_retZ hJ rfl)
    · rw [if_neg c5] at hJ
      refine aw_iload_n (n := 31) d_Mod_sign_30 rfl rfl 0 rfl ?_
      refine aw_bipush (n := 33) (v := 62) d_Mod_sign_31 rfl (by decide) ?_
      refine aw_icmp_eq (n := 36) (t := 60) d_Mod_sign_33 rfl (by decide) (fun c6 => ?_) (fun c6 => ?_)
      · rw [if_pos c6] at hJ
        refine aw_iconst (n := 61) (v := 1) d_Mod_sign_60 rfl (by decide) ?_
        refine aw_goto (t := 65) d_Mod_sign_61 (by decide) ?_
        exact aw_zret d_Mod_sign_65 rfl rfl (ax_retZ hJ rfl)
      · rw [if_neg c6] at hJ
        refine aw_iload_n (n := 37) d_Mod_sign_36 rfl rfl 0 rfl ?_
        refine aw_bipush (n := 39) (v := 61) d_Mod_sign_37 rfl (by decide) ?_
        refine aw_icmp_eq (n := 42) (t := 60) d_Mod_sign_39 rfl (by decide) (fun c7 => ?_) (fun c7 => ?_)
        · rw [if_pos c7] at hJ
          refine aw_iconst (n := 61) (v := 1) d_Mod_sign_60 rfl (by decide) ?_
          refine aw_goto (t := 65) d_Mod_sign_61 (by decide) ?_
          exact aw_zret d_Mod_sign_65 rfl rfl (ax_retZ hJ rfl)
        · rw [if_neg c7] at hJ
          refine aw_iload_n (n := 43) d_Mod_sign_42 rfl rfl 0 rfl ?_
          refine aw_bipush (n := 45) (v := 124) d_Mod_sign_43 rfl (by decide) ?_
          refine aw_icmp_eq (n := 48) (t := 60) d_Mod_sign_45 rfl (by decide) (fun c8 => ?_) (fun c8 => ?_)
          · rw [if_pos c8] at hJ
            refine aw_iconst (n := 61) (v := 1) d_Mod_sign_60 rfl (by decide) ?_
            refine aw_goto (t := 65) d_Mod_sign_61 (by decide) ?_
            exact aw_zret d_Mod_sign_65 rfl rfl (ax_retZ hJ rfl)
          · rw [if_neg c8] at hJ
            refine aw_iload_n (n := 49) d_Mod_sign_48 rfl rfl 0 rfl ?_
            refine aw_bipush (n := 51) (v := 33) d_Mod_sign_49 rfl (by decide) ?_
            refine aw_icmp_eq (n := 54) (t := 60) d_Mod_sign_51 rfl (by decide) (fun c9 => ?_) (fun c9 => ?_)
            · rw [if_pos c9] at hJ
              refine aw_iconst (n := 61) (v := 1) d_Mod_sign_60 rfl (by decide) ?_
              refine aw_goto (t := 65) d_Mod_sign_61 (by decide) ?_
              exact aw_zret d_Mod_sign_65 rfl rfl (ax_retZ hJ rfl)
            · rw [if_neg c9] at hJ
              refine aw_iload_n (n := 55) d_Mod_sign_54 rfl rfl 0 rfl ?_
              refine aw_bipush (n := 57) (v := 64) d_Mod_sign_55 rfl (by decide) ?_
              refine aw_icmp_ne (n := 60) (t := 64) d_Mod_sign_57 rfl (by decide) (fun c10 => ?_) (fun c10 => ?_)
              · rw [if_neg c10] at hJ
                refine aw_iconst (n := 65) (v := 0) d_Mod_sign_64 rfl (by decide) ?_
                exact aw_zret d_Mod_sign_65 rfl rfl (ax_retZ hJ rfl)
              · rw [if_pos c10] at hJ
                refine aw_iconst (n := 61) (v := 1) d_Mod_sign_60 rfl (by decide) ?_
                refine aw_goto (t := 65) d_Mod_sign_61 (by decide) ?_
                exact aw_zret d_Mod_sign_65 rfl rfl (ax_retZ hJ rfl)
set_option maxHeartbeats 1000000 in
theorem c_Mod_sign {N : Nat} {g : ax_G} {a0 : Int32} {σ : St} {r9 : Int32} {s9 : St} (hJ : J_Mod_sign N a0 σ = some (r9, s9)) : ax_CI μ_Mod_sign g y_Mod_sign (wM g) [.int a0] σ (ax_eqZ r9 s9) := by
  refine ax_CI.of (plainFor_of_name rfl) rfl (Nat.le_of_ble_eq_true rfl) (fun x A _ => ?_)
  show AW x μ_Mod_sign g A (wM g) (0, 0) (ax_QI x μ_Mod_sign g A (wM g) (ax_eqZ r9 s9)) 0 [(0, .int a0)] [] σ
  rw [J_Mod_sign] at hJ
  refine aw_iload_n (n := 1) d_Mod_sign_0 rfl rfl 0 rfl ?_
  refine aw_bipush (n := 3) (v := 37) d_Mod_sign_1 rfl (by decide) ?_
  refine aw_icmp_lt (n := 6) (t := 18) d_Mod_sign_3 rfl (by decide) (fun c1 => ?_) (fun c1 => ?_)
  · rw [if_pos c1] at hJ
    exact t_Mod_sign_18 x A _ _ hJ
  · rw [if_neg c1] at hJ
    refine aw_iload_n (n := 7) d_Mod_sign_6 rfl rfl 0 rfl ?_
    refine aw_bipush (n := 9) (v := 45) d_Mod_sign_7 rfl (by decide) ?_
    refine aw_icmp_gt (n := 12) (t := 18) d_Mod_sign_9 rfl (by decide) (fun c2 => ?_) (fun c2 => ?_)
    · rw [if_pos c2] at hJ
      exact t_Mod_sign_18 x A _ _ hJ
    · rw [if_neg c2] at hJ
      refine aw_iload_n (n := 13) d_Mod_sign_12 rfl rfl 0 rfl ?_
      refine aw_bipush (n := 15) (v := 39) d_Mod_sign_13 rfl (by decide) ?_
      refine aw_icmp_ne (n := 18) (t := 60) d_Mod_sign_15 rfl (by decide) (fun c3 => ?_) (fun c3 => ?_)
      · rw [if_neg c3] at hJ
        refine aw_iconst (n := 61) (v := 1) d_Mod_sign_60 rfl (by decide) ?_
        refine aw_goto (t := 65) d_Mod_sign_61 (by decide) ?_
        exact aw_zret d_Mod_sign_65 rfl rfl (ax_retZ hJ rfl)
      · rw [if_pos c3] at hJ
        exact t_Mod_sign_18 x A _ _ hJ
abbrev b_Mod_wordKind : ByteArray := prog_10_method_8_code
def y_Mod_wordKind : MethodName := ⟨"DotConsoleModel", "wordKind", "(II)I"⟩
theorem d_Mod_wordKind_0 : decode b_Mod_wordKind 0 = .ok (.iconst 0, 1) := by decide +kernel
theorem d_Mod_wordKind_1 : decode b_Mod_wordKind 1 = .ok (.istore_n 3, 1) := by decide +kernel
theorem d_Mod_wordKind_2 : decode b_Mod_wordKind 2 = .ok (.iload_n 1, 1) := by decide +kernel
theorem d_Mod_wordKind_3 : decode b_Mod_wordKind 3 = .ok (.istore 4, 2) := by decide +kernel
theorem d_Mod_wordKind_5 : decode b_Mod_wordKind 5 = .ok (.iload 4, 2) := by decide +kernel
theorem d_Mod_wordKind_7 : decode b_Mod_wordKind 7 = .ok (.iload_n 2, 1) := by decide +kernel
theorem d_Mod_wordKind_8 : decode b_Mod_wordKind 8 = .ok (.if_icmp .ge 27, 3) := by decide +kernel
theorem d_Mod_wordKind_11 : decode b_Mod_wordKind 11 = .ok (.bipush 27, 2) := by decide +kernel
theorem d_Mod_wordKind_13 : decode b_Mod_wordKind 13 = .ok (.iload_n 3, 1) := by decide +kernel
theorem d_Mod_wordKind_14 : decode b_Mod_wordKind 14 = .ok (.imul, 1) := by decide +kernel
theorem d_Mod_wordKind_15 : decode b_Mod_wordKind 15 = .ok (.aload_n 0, 1) := by decide +kernel
theorem d_Mod_wordKind_16 : decode b_Mod_wordKind 16 = .ok (.getfield 7, 3) := by decide +kernel
theorem d_Mod_wordKind_19 : decode b_Mod_wordKind 19 = .ok (.iload 4, 2) := by decide +kernel
theorem d_Mod_wordKind_21 : decode b_Mod_wordKind 21 = .ok (.caload, 1) := by decide +kernel
theorem d_Mod_wordKind_22 : decode b_Mod_wordKind 22 = .ok (.iadd, 1) := by decide +kernel
theorem d_Mod_wordKind_23 : decode b_Mod_wordKind 23 = .ok (.bipush 97, 2) := by decide +kernel
theorem d_Mod_wordKind_25 : decode b_Mod_wordKind 25 = .ok (.isub, 1) := by decide +kernel
theorem d_Mod_wordKind_26 : decode b_Mod_wordKind 26 = .ok (.iconst 1, 1) := by decide +kernel
theorem d_Mod_wordKind_27 : decode b_Mod_wordKind 27 = .ok (.iadd, 1) := by decide +kernel
theorem d_Mod_wordKind_28 : decode b_Mod_wordKind 28 = .ok (.istore_n 3, 1) := by decide +kernel
theorem d_Mod_wordKind_29 : decode b_Mod_wordKind 29 = .ok (.iinc 4 1, 3) := by decide +kernel
theorem d_Mod_wordKind_32 : decode b_Mod_wordKind 32 = .ok (.goto (-27), 3) := by decide +kernel
theorem d_Mod_wordKind_35 : decode b_Mod_wordKind 35 = .ok (.iload_n 3, 1) := by decide +kernel
theorem d_Mod_wordKind_36 : decode b_Mod_wordKind 36 = .ok (.lookupswitch 199 #[(249, 148), (802, 175), (1887, 169), (2012, 181), (2530, 160), (4027, 157), (4716, 178), (9528, 190), (9734, 187), (13504, 196), (54340, 184), (107681, 151), (243140, 166), (320186, 193), (326165, 172), (328934, 163), (12387497, 154)], 148) := by decide +kernel
theorem d_Mod_wordKind_184 : decode b_Mod_wordKind 184 = .ok (.bipush 10, 2) := by decide +kernel
theorem d_Mod_wordKind_186 : decode b_Mod_wordKind 186 = .ok (.ireturn, 1) := by decide +kernel
theorem d_Mod_wordKind_187 : decode b_Mod_wordKind 187 = .ok (.bipush 11, 2) := by decide +kernel
theorem d_Mod_wordKind_189 : decode b_Mod_wordKind 189 = .ok (.ireturn, 1) := by decide +kernel
theorem d_Mod_wordKind_190 : decode b_Mod_wordKind 190 = .ok (.bipush 12, 2) := by decide +kernel
theorem d_Mod_wordKind_192 : decode b_Mod_wordKind 192 = .ok (.ireturn, 1) := by decide +kernel
theorem d_Mod_wordKind_193 : decode b_Mod_wordKind 193 = .ok (.bipush 13, 2) := by decide +kernel
theorem d_Mod_wordKind_195 : decode b_Mod_wordKind 195 = .ok (.ireturn, 1) := by decide +kernel
theorem d_Mod_wordKind_196 : decode b_Mod_wordKind 196 = .ok (.bipush 14, 2) := by decide +kernel
theorem d_Mod_wordKind_198 : decode b_Mod_wordKind 198 = .ok (.ireturn, 1) := by decide +kernel
theorem d_Mod_wordKind_199 : decode b_Mod_wordKind 199 = .ok (.bipush 15, 2) := by decide +kernel
theorem d_Mod_wordKind_201 : decode b_Mod_wordKind 201 = .ok (.ireturn, 1) := by decide +kernel
theorem d_Mod_wordKind_202 : decode b_Mod_wordKind 202 = .ok (.bipush 16, 2) := by decide +kernel
theorem d_Mod_wordKind_204 : decode b_Mod_wordKind 204 = .ok (.ireturn, 1) := by decide +kernel
theorem d_Mod_wordKind_205 : decode b_Mod_wordKind 205 = .ok (.bipush 17, 2) := by decide +kernel
theorem d_Mod_wordKind_207 : decode b_Mod_wordKind 207 = .ok (.ireturn, 1) := by decide +kernel
theorem d_Mod_wordKind_208 : decode b_Mod_wordKind 208 = .ok (.bipush 18, 2) := by decide +kernel
theorem d_Mod_wordKind_210 : decode b_Mod_wordKind 210 = .ok (.ireturn, 1) := by decide +kernel
theorem d_Mod_wordKind_211 : decode b_Mod_wordKind 211 = .ok (.bipush 20, 2) := by decide +kernel
theorem d_Mod_wordKind_213 : decode b_Mod_wordKind 213 = .ok (.ireturn, 1) := by decide +kernel
theorem d_Mod_wordKind_214 : decode b_Mod_wordKind 214 = .ok (.bipush 21, 2) := by decide +kernel
theorem d_Mod_wordKind_216 : decode b_Mod_wordKind 216 = .ok (.ireturn, 1) := by decide +kernel
theorem d_Mod_wordKind_217 : decode b_Mod_wordKind 217 = .ok (.bipush 22, 2) := by decide +kernel
theorem d_Mod_wordKind_219 : decode b_Mod_wordKind 219 = .ok (.ireturn, 1) := by decide +kernel
theorem d_Mod_wordKind_220 : decode b_Mod_wordKind 220 = .ok (.bipush 23, 2) := by decide +kernel
theorem d_Mod_wordKind_222 : decode b_Mod_wordKind 222 = .ok (.ireturn, 1) := by decide +kernel
theorem d_Mod_wordKind_223 : decode b_Mod_wordKind 223 = .ok (.bipush 24, 2) := by decide +kernel
theorem d_Mod_wordKind_225 : decode b_Mod_wordKind 225 = .ok (.ireturn, 1) := by decide +kernel
theorem d_Mod_wordKind_226 : decode b_Mod_wordKind 226 = .ok (.bipush 25, 2) := by decide +kernel
theorem d_Mod_wordKind_228 : decode b_Mod_wordKind 228 = .ok (.ireturn, 1) := by decide +kernel
theorem d_Mod_wordKind_229 : decode b_Mod_wordKind 229 = .ok (.bipush 26, 2) := by decide +kernel
theorem d_Mod_wordKind_231 : decode b_Mod_wordKind 231 = .ok (.ireturn, 1) := by decide +kernel
theorem d_Mod_wordKind_232 : decode b_Mod_wordKind 232 = .ok (.bipush 27, 2) := by decide +kernel
theorem d_Mod_wordKind_234 : decode b_Mod_wordKind 234 = .ok (.ireturn, 1) := by decide +kernel
theorem d_Mod_wordKind_235 : decode b_Mod_wordKind 235 = .ok (.iconst 2, 1) := by decide +kernel
theorem d_Mod_wordKind_236 : decode b_Mod_wordKind 236 = .ok (.ireturn, 1) := by decide +kernel
def μ_Mod_wordKind : ax_M := (b_Mod_wordKind, 5, "DotConsoleModel", (some .int), 0, 0, 0, 0)
theorem Y_Mod_wordKind : ax_YV μ_Mod_wordKind y_Mod_wordKind 2 := ⟨⟨ax_mem (by decide +kernel) rfl, ax_mem (by decide +kernel) rfl, by decide, by decide, by decide +kernel⟩, ax_mem (by decide +kernel) rfl, ax_mem (by decide +kernel) rfl⟩
def J_Mod_wordKind_5 (N : Nat) : Nat → Int32 → Int32 → Int32 → St → Option (Int32 × St)
  | 0, _, _, _, _ => none
  | n + 1, l2, l3, l4, σ => (if l2 ≤ l4 then
  (if l3 = 249 then some (10, σ)
  else (if l3 = 802 then some (20, σ)
  else (if l3 = 1887 then some (17, σ)
  else (if l3 = 2012 then some (22, σ)
  else (if l3 = 2530 then some (14, σ)
  else (if l3 = 4027 then some (13, σ)
  else (if l3 = 4716 then some (21, σ)
  else (if l3 = 9528 then some (25, σ)
  else (if l3 = 9734 then some (24, σ)
  else (if l3 = 13504 then some (27, σ)
  else (if l3 = 54340 then some (23, σ)
  else (if l3 = 107681 then some (11, σ)
  else (if l3 = 243140 then some (16, σ)
  else (if l3 = 320186 then some (26, σ)
  else (if l3 = 326165 then some (18, σ)
  else (if l3 = 328934 then some (15, σ)
  else (if l3 = 12387497 then some (12, σ)
  else some (2, σ))))))))))))))))))
  else (if (inB l4 48) = true then ax_let (((((27 * l3) + (σ.2 0 l4.toNatClampNeg)) - 97) + 1) : Int32) (fun v1 =>
  ax_let ((l4 + 1) : Int32) (fun v2 =>
  J_Mod_wordKind_5 N n l2 v1 v2 σ)) else none))
def J_Mod_wordKind (N : Nat) (a1 : Int32) (a2 : Int32) (σ : St) : Option (Int32 × St) :=
  J_Mod_wordKind_5 N N a2 0 a1 σ
set_option maxHeartbeats 1000000 in
theorem t_Mod_wordKind_5 {N : Nat} {g : ax_G} {r9 : Int32} {s9 : St} (x : ax_X) (A : Nat → Prop) : ∀ (n : Nat) (l2 : Int32) (l3 : Int32) (l4 : Int32) (σ : St), J_Mod_wordKind_5 N n l2 l3 l4 σ = some (r9, s9) → AW x μ_Mod_wordKind g A (wM g) (0, 0) (ax_QI x μ_Mod_wordKind g A (wM g) (ax_eqI r9 s9)) 5 [(0, .ref (g.2.1 32)), (2, .int l2), (3, .int l3), (4, .int l4)] [] σ := by
  intro n
  induction n with
  | zero => intro l2 l3 l4 σ hJ; rw [J_Mod_wordKind_5] at hJ; cases hJ
  | succ n ih =>
    intro l2 l3 l4 σ hJ
    rw [J_Mod_wordKind_5] at hJ
    refine aw_iload (n := 7) d_Mod_wordKind_5 rfl 3 rfl ?_
    refine aw_iload_n (n := 8) d_Mod_wordKind_7 rfl rfl 1 rfl ?_
    refine aw_icmp_ge (n := 11) (t := 35) d_Mod_wordKind_8 rfl (by decide) (fun c1 => ?_) (fun c1 => ?_)
    · rw [if_pos c1] at hJ
      refine aw_iload_n (n := 36) d_Mod_wordKind_35 rfl rfl 2 rfl ?_
      rcases ax_ifE hJ with ⟨c2, hJ⟩ | ⟨c2, hJ⟩
      · refine aw_lookup (t := 184) (off := 148) d_Mod_wordKind_36 (by decide) (by first | (rw [c2]; done) | (rw [c2]; decide)) (by decide) ?_
        refine aw_bipush (n := 186) (v := 10) d_Mod_wordKind_184 rfl (by decide) ?_
        exact aw_iret d_Mod_wordKind_186 rfl (ax_ret hJ)
      rcases ax_ifE hJ with ⟨c3, hJ⟩ | ⟨c3, hJ⟩
      · refine aw_lookup (t := 211) (off := 175) d_Mod_wordKind_36 (by decide) (by first | (rw [c3]; done) | (rw [c3]; decide)) (by decide) ?_
        refine aw_bipush (n := 213) (v := 20) d_Mod_wordKind_211 rfl (by decide) ?_
        exact aw_iret d_Mod_wordKind_213 rfl (ax_ret hJ)
      rcases ax_ifE hJ with ⟨c4, hJ⟩ | ⟨c4, hJ⟩
      · refine aw_lookup (t := 205) (off := 169) d_Mod_wordKind_36 (by decide) (by first | (rw [c4]; done) | (rw [c4]; decide)) (by decide) ?_
        refine aw_bipush (n := 207) (v := 17) d_Mod_wordKind_205 rfl (by decide) ?_
        exact aw_iret d_Mod_wordKind_207 rfl (ax_ret hJ)
      rcases ax_ifE hJ with ⟨c5, hJ⟩ | ⟨c5, hJ⟩
      · refine aw_lookup (t := 217) (off := 181) d_Mod_wordKind_36 (by decide) (by first | (rw [c5]; done) | (rw [c5]; decide)) (by decide) ?_
        refine aw_bipush (n := 219) (v := 22) d_Mod_wordKind_217 rfl (by decide) ?_
        exact aw_iret d_Mod_wordKind_219 rfl (ax_ret hJ)
      rcases ax_ifE hJ with ⟨c6, hJ⟩ | ⟨c6, hJ⟩
      · refine aw_lookup (t := 196) (off := 160) d_Mod_wordKind_36 (by decide) (by first | (rw [c6]; done) | (rw [c6]; decide)) (by decide) ?_
        refine aw_bipush (n := 198) (v := 14) d_Mod_wordKind_196 rfl (by decide) ?_
        exact aw_iret d_Mod_wordKind_198 rfl (ax_ret hJ)
      rcases ax_ifE hJ with ⟨c7, hJ⟩ | ⟨c7, hJ⟩
      · refine aw_lookup (t := 193) (off := 157) d_Mod_wordKind_36 (by decide) (by first | (rw [c7]; done) | (rw [c7]; decide)) (by decide) ?_
        refine aw_bipush (n := 195) (v := 13) d_Mod_wordKind_193 rfl (by decide) ?_
        exact aw_iret d_Mod_wordKind_195 rfl (ax_ret hJ)
      rcases ax_ifE hJ with ⟨c8, hJ⟩ | ⟨c8, hJ⟩
      · refine aw_lookup (t := 214) (off := 178) d_Mod_wordKind_36 (by decide) (by first | (rw [c8]; done) | (rw [c8]; decide)) (by decide) ?_
        refine aw_bipush (n := 216) (v := 21) d_Mod_wordKind_214 rfl (by decide) ?_
        exact aw_iret d_Mod_wordKind_216 rfl (ax_ret hJ)
      rcases ax_ifE hJ with ⟨c9, hJ⟩ | ⟨c9, hJ⟩
      · refine aw_lookup (t := 226) (off := 190) d_Mod_wordKind_36 (by decide) (by first | (rw [c9]; done) | (rw [c9]; decide)) (by decide) ?_
        refine aw_bipush (n := 228) (v := 25) d_Mod_wordKind_226 rfl (by decide) ?_
        exact aw_iret d_Mod_wordKind_228 rfl (ax_ret hJ)
      rcases ax_ifE hJ with ⟨c10, hJ⟩ | ⟨c10, hJ⟩
      · refine aw_lookup (t := 223) (off := 187) d_Mod_wordKind_36 (by decide) (by first | (rw [c10]; done) | (rw [c10]; decide)) (by decide) ?_
        refine aw_bipush (n := 225) (v := 24) d_Mod_wordKind_223 rfl (by decide) ?_
        exact aw_iret d_Mod_wordKind_225 rfl (ax_ret hJ)
      rcases ax_ifE hJ with ⟨c11, hJ⟩ | ⟨c11, hJ⟩
      · refine aw_lookup (t := 232) (off := 196) d_Mod_wordKind_36 (by decide) (by first | (rw [c11]; done) | (rw [c11]; decide)) (by decide) ?_
        refine aw_bipush (n := 234) (v := 27) d_Mod_wordKind_232 rfl (by decide) ?_
        exact aw_iret d_Mod_wordKind_234 rfl (ax_ret hJ)
      rcases ax_ifE hJ with ⟨c12, hJ⟩ | ⟨c12, hJ⟩
      · refine aw_lookup (t := 220) (off := 184) d_Mod_wordKind_36 (by decide) (by first | (rw [c12]; done) | (rw [c12]; decide)) (by decide) ?_
        refine aw_bipush (n := 222) (v := 23) d_Mod_wordKind_220 rfl (by decide) ?_
        exact aw_iret d_Mod_wordKind_222 rfl (ax_ret hJ)
      rcases ax_ifE hJ with ⟨c13, hJ⟩ | ⟨c13, hJ⟩
      · refine aw_lookup (t := 187) (off := 151) d_Mod_wordKind_36 (by decide) (by first | (rw [c13]; done) | (rw [c13]; decide)) (by decide) ?_
        refine aw_bipush (n := 189) (v := 11) d_Mod_wordKind_187 rfl (by decide) ?_
        exact aw_iret d_Mod_wordKind_189 rfl (ax_ret hJ)
      rcases ax_ifE hJ with ⟨c14, hJ⟩ | ⟨c14, hJ⟩
      · refine aw_lookup (t := 202) (off := 166) d_Mod_wordKind_36 (by decide) (by first | (rw [c14]; done) | (rw [c14]; decide)) (by decide) ?_
        refine aw_bipush (n := 204) (v := 16) d_Mod_wordKind_202 rfl (by decide) ?_
        exact aw_iret d_Mod_wordKind_204 rfl (ax_ret hJ)
      rcases ax_ifE hJ with ⟨c15, hJ⟩ | ⟨c15, hJ⟩
      · refine aw_lookup (t := 229) (off := 193) d_Mod_wordKind_36 (by decide) (by first | (rw [c15]; done) | (rw [c15]; decide)) (by decide) ?_
        refine aw_bipush (n := 231) (v := 26) d_Mod_wordKind_229 rfl (by decide) ?_
        exact aw_iret d_Mod_wordKind_231 rfl (ax_ret hJ)
      rcases ax_ifE hJ with ⟨c16, hJ⟩ | ⟨c16, hJ⟩
      · refine aw_lookup (t := 208) (off := 172) d_Mod_wordKind_36 (by decide) (by first | (rw [c16]; done) | (rw [c16]; decide)) (by decide) ?_
        refine aw_bipush (n := 210) (v := 18) d_Mod_wordKind_208 rfl (by decide) ?_
        exact aw_iret d_Mod_wordKind_210 rfl (ax_ret hJ)
      rcases ax_ifE hJ with ⟨c17, hJ⟩ | ⟨c17, hJ⟩
      · refine aw_lookup (t := 199) (off := 163) d_Mod_wordKind_36 (by decide) (by first | (rw [c17]; done) | (rw [c17]; decide)) (by decide) ?_
        refine aw_bipush (n := 201) (v := 15) d_Mod_wordKind_199 rfl (by decide) ?_
        exact aw_iret d_Mod_wordKind_201 rfl (ax_ret hJ)
      rcases ax_ifE hJ with ⟨c18, hJ⟩ | ⟨c18, hJ⟩
      · refine aw_lookup (t := 190) (off := 154) d_Mod_wordKind_36 (by decide) (by first | (rw [c18]; done) | (rw [c18]; decide)) (by decide) ?_
        refine aw_bipush (n := 192) (v := 12) d_Mod_wordKind_190 rfl (by decide) ?_
        exact aw_iret d_Mod_wordKind_192 rfl (ax_ret hJ)
      refine aw_lookup (t := 235) (off := 199) d_Mod_wordKind_36 (by decide) (show Op.lookupswitch.offset [(249, 148), (802, 175), (1887, 169), (2012, 181), (2530, 160), (4027, 157), (4716, 178), (9528, 190), (9734, 187), (13504, 196), (54340, 184), (107681, 151), (243140, 166), (320186, 193), (326165, 172), (328934, 163), (12387497, 154)] 199 _ = 199 by rw [lv_osw (a := 249) c2 (by decide), lv_osw (a := 802) c3 (by decide), lv_osw (a := 1887) c4 (by decide), lv_osw (a := 2012) c5 (by decide), lv_osw (a := 2530) c6 (by decide), lv_osw (a := 4027) c7 (by decide), lv_osw (a := 4716) c8 (by decide), lv_osw (a := 9528) c9 (by decide), lv_osw (a := 9734) c10 (by decide), lv_osw (a := 13504) c11 (by decide), lv_osw (a := 54340) c12 (by decide), lv_osw (a := 107681) c13 (by decide), lv_osw (a := 243140) c14 (by decide), lv_osw (a := 320186) c15 (by decide), lv_osw (a := 326165) c16 (by decide), lv_osw (a := 328934) c17 (by decide), lv_osw (a := 12387497) c18 (by decide)]; rfl) (by decide) ?_
      refine aw_iconst (n := 236) (v := 2) d_Mod_wordKind_235 rfl (by decide) ?_
      exact aw_iret d_Mod_wordKind_236 rfl (ax_ret hJ)
    · rw [if_neg c1] at hJ
      refine aw_bipush (n := 13) (v := 27) d_Mod_wordKind_11 rfl (by decide) ?_
      refine aw_iload_n (n := 14) d_Mod_wordKind_13 rfl rfl 2 rfl ?_
      refine aw_imul (n := 15) d_Mod_wordKind_14 rfl ?_
      refine aw_aload_n (n := 16) d_Mod_wordKind_15 rfl rfl 0 rfl ?_
      refine gf_Mod_text (n := 19) d_Mod_wordKind_16 rfl kf_Mod_7 ?_
      refine aw_iload (n := 21) d_Mod_wordKind_19 rfl 3 rfl ?_
      obtain ⟨h1, hJ⟩ := ax_need hJ
      refine al_33 (n := 22) d_Mod_wordKind_21 rfl h1 ?_
      refine aw_iadd (n := 23) d_Mod_wordKind_22 rfl ?_
      refine aw_bipush (n := 25) (v := 97) d_Mod_wordKind_23 rfl (by decide) ?_
      refine aw_isub (n := 26) d_Mod_wordKind_25 rfl ?_
      refine aw_iconst (n := 27) (v := 1) d_Mod_wordKind_26 rfl (by decide) ?_
      refine aw_iadd (n := 28) d_Mod_wordKind_27 rfl ?_
      obtain ⟨v1, ev1, hJ⟩ := ax_letE hJ
      refine aw_top ev1 ?_
      refine aw_istore_n (n := 29) d_Mod_wordKind_28 rfl rfl (by decide) rfl ?_
      obtain ⟨v2, ev2, hJ⟩ := ax_letE hJ
      refine aw_iinc (n := 32) (j := 3) (v := v2) d_Mod_wordKind_29 rfl rfl (ev2) (by decide) rfl ?_
      refine aw_goto (t := 5) d_Mod_wordKind_32 (by decide) ?_
      refine aw_sub [2, 3, 1, 0] rfl ?_
      exact ih _ _ _ _ hJ
set_option maxHeartbeats 1000000 in
theorem c_Mod_wordKind {N : Nat} {g : ax_G} {a1 : Int32} {a2 : Int32} {σ : St} {r9 : Int32} {s9 : St} (hJ : J_Mod_wordKind N a1 a2 σ = some (r9, s9)) : ax_CI μ_Mod_wordKind g y_Mod_wordKind (wM g) [.ref (g.2.1 32), .int a1, .int a2] σ (ax_eqI r9 s9) := by
  refine ax_CI.of (plainFor_of_name rfl) rfl (Nat.le_of_ble_eq_true rfl) (fun x A _ => ?_)
  show AW x μ_Mod_wordKind g A (wM g) (0, 0) (ax_QI x μ_Mod_wordKind g A (wM g) (ax_eqI r9 s9)) 0 [(0, .ref (g.2.1 32)), (1, .int a1), (2, .int a2)] [] σ
  rw [J_Mod_wordKind] at hJ
  refine aw_iconst (n := 1) (v := 0) d_Mod_wordKind_0 rfl (by decide) ?_
  refine aw_istore_n (n := 2) d_Mod_wordKind_1 rfl rfl (by decide) rfl ?_
  refine aw_iload_n (n := 3) d_Mod_wordKind_2 rfl rfl 2 rfl ?_
  refine aw_istore (n := 5) d_Mod_wordKind_3 rfl (by decide) rfl ?_
  refine aw_sub [2, 4, 1, 0] rfl ?_
  exact t_Mod_wordKind_5 x A N _ _ _ _ hJ
abbrev b_Mod_numberOf : ByteArray := prog_10_method_7_code
def y_Mod_numberOf : MethodName := ⟨"DotConsoleModel", "numberOf", "(III)I"⟩
theorem d_Mod_numberOf_0 : decode b_Mod_numberOf 0 = .ok (.iload_n 3, 1) := by decide +kernel
theorem d_Mod_numberOf_1 : decode b_Mod_numberOf 1 = .ok (.iload_n 2, 1) := by decide +kernel
theorem d_Mod_numberOf_2 : decode b_Mod_numberOf 2 = .ok (.if_icmp .le 11, 3) := by decide +kernel
theorem d_Mod_numberOf_5 : decode b_Mod_numberOf 5 = .ok (.iload_n 3, 1) := by decide +kernel
theorem d_Mod_numberOf_6 : decode b_Mod_numberOf 6 = .ok (.iload_n 2, 1) := by decide +kernel
theorem d_Mod_numberOf_7 : decode b_Mod_numberOf 7 = .ok (.isub, 1) := by decide +kernel
theorem d_Mod_numberOf_8 : decode b_Mod_numberOf 8 = .ok (.iconst 1, 1) := by decide +kernel
theorem d_Mod_numberOf_9 : decode b_Mod_numberOf 9 = .ok (.isub, 1) := by decide +kernel
theorem d_Mod_numberOf_10 : decode b_Mod_numberOf 10 = .ok (.goto 4, 3) := by decide +kernel
theorem d_Mod_numberOf_13 : decode b_Mod_numberOf 13 = .ok (.iconst 0, 1) := by decide +kernel
theorem d_Mod_numberOf_14 : decode b_Mod_numberOf 14 = .ok (.istore 4, 2) := by decide +kernel
theorem d_Mod_numberOf_16 : decode b_Mod_numberOf 16 = .ok (.iload_n 2, 1) := by decide +kernel
theorem d_Mod_numberOf_17 : decode b_Mod_numberOf 17 = .ok (.iload_n 1, 1) := by decide +kernel
theorem d_Mod_numberOf_18 : decode b_Mod_numberOf 18 = .ok (.isub, 1) := by decide +kernel
theorem d_Mod_numberOf_19 : decode b_Mod_numberOf 19 = .ok (.iconst 5, 1) := by decide +kernel
theorem d_Mod_numberOf_20 : decode b_Mod_numberOf 20 = .ok (.if_icmp .gt 9, 3) := by decide +kernel
theorem d_Mod_numberOf_23 : decode b_Mod_numberOf 23 = .ok (.iload 4, 2) := by decide +kernel
theorem d_Mod_numberOf_25 : decode b_Mod_numberOf 25 = .ok (.iconst 4, 1) := by decide +kernel
theorem d_Mod_numberOf_26 : decode b_Mod_numberOf 26 = .ok (.if_icmp .le 5, 3) := by decide +kernel
theorem d_Mod_numberOf_29 : decode b_Mod_numberOf 29 = .ok (.iconst (-1), 1) := by decide +kernel
theorem d_Mod_numberOf_30 : decode b_Mod_numberOf 30 = .ok (.ireturn, 1) := by decide +kernel
theorem d_Mod_numberOf_31 : decode b_Mod_numberOf 31 = .ok (.iconst 0, 1) := by decide +kernel
theorem d_Mod_numberOf_32 : decode b_Mod_numberOf 32 = .ok (.istore 5, 2) := by decide +kernel
theorem d_Mod_numberOf_34 : decode b_Mod_numberOf 34 = .ok (.iload_n 1, 1) := by decide +kernel
theorem d_Mod_numberOf_35 : decode b_Mod_numberOf 35 = .ok (.istore 6, 2) := by decide +kernel
theorem d_Mod_numberOf_37 : decode b_Mod_numberOf 37 = .ok (.iload 6, 2) := by decide +kernel
theorem d_Mod_numberOf_39 : decode b_Mod_numberOf 39 = .ok (.iload_n 2, 1) := by decide +kernel
theorem d_Mod_numberOf_40 : decode b_Mod_numberOf 40 = .ok (.if_icmp .ge 27, 3) := by decide +kernel
theorem d_Mod_numberOf_43 : decode b_Mod_numberOf 43 = .ok (.bipush 10, 2) := by decide +kernel
theorem d_Mod_numberOf_45 : decode b_Mod_numberOf 45 = .ok (.iload 5, 2) := by decide +kernel
theorem d_Mod_numberOf_47 : decode b_Mod_numberOf 47 = .ok (.imul, 1) := by decide +kernel
theorem d_Mod_numberOf_48 : decode b_Mod_numberOf 48 = .ok (.aload_n 0, 1) := by decide +kernel
theorem d_Mod_numberOf_49 : decode b_Mod_numberOf 49 = .ok (.getfield 7, 3) := by decide +kernel
theorem d_Mod_numberOf_52 : decode b_Mod_numberOf 52 = .ok (.iload 6, 2) := by decide +kernel
theorem d_Mod_numberOf_54 : decode b_Mod_numberOf 54 = .ok (.caload, 1) := by decide +kernel
theorem d_Mod_numberOf_55 : decode b_Mod_numberOf 55 = .ok (.iadd, 1) := by decide +kernel
theorem d_Mod_numberOf_56 : decode b_Mod_numberOf 56 = .ok (.bipush 48, 2) := by decide +kernel
theorem d_Mod_numberOf_58 : decode b_Mod_numberOf 58 = .ok (.isub, 1) := by decide +kernel
theorem d_Mod_numberOf_59 : decode b_Mod_numberOf 59 = .ok (.istore 5, 2) := by decide +kernel
theorem d_Mod_numberOf_61 : decode b_Mod_numberOf 61 = .ok (.iinc 6 1, 3) := by decide +kernel
theorem d_Mod_numberOf_64 : decode b_Mod_numberOf 64 = .ok (.goto (-27), 3) := by decide +kernel
theorem d_Mod_numberOf_67 : decode b_Mod_numberOf 67 = .ok (.iconst 0, 1) := by decide +kernel
theorem d_Mod_numberOf_68 : decode b_Mod_numberOf 68 = .ok (.istore 6, 2) := by decide +kernel
theorem d_Mod_numberOf_70 : decode b_Mod_numberOf 70 = .ok (.iconst 1, 1) := by decide +kernel
theorem d_Mod_numberOf_71 : decode b_Mod_numberOf 71 = .ok (.istore 7, 2) := by decide +kernel
theorem d_Mod_numberOf_73 : decode b_Mod_numberOf 73 = .ok (.iload_n 2, 1) := by decide +kernel
theorem d_Mod_numberOf_74 : decode b_Mod_numberOf 74 = .ok (.iconst 1, 1) := by decide +kernel
theorem d_Mod_numberOf_75 : decode b_Mod_numberOf 75 = .ok (.iadd, 1) := by decide +kernel
theorem d_Mod_numberOf_76 : decode b_Mod_numberOf 76 = .ok (.istore 8, 2) := by decide +kernel
theorem d_Mod_numberOf_78 : decode b_Mod_numberOf 78 = .ok (.iload 8, 2) := by decide +kernel
theorem d_Mod_numberOf_80 : decode b_Mod_numberOf 80 = .ok (.iload_n 3, 1) := by decide +kernel
theorem d_Mod_numberOf_81 : decode b_Mod_numberOf 81 = .ok (.if_icmp .ge 34, 3) := by decide +kernel
theorem d_Mod_numberOf_84 : decode b_Mod_numberOf 84 = .ok (.bipush 10, 2) := by decide +kernel
theorem d_Mod_numberOf_86 : decode b_Mod_numberOf 86 = .ok (.iload 6, 2) := by decide +kernel
theorem d_Mod_numberOf_88 : decode b_Mod_numberOf 88 = .ok (.imul, 1) := by decide +kernel
theorem d_Mod_numberOf_89 : decode b_Mod_numberOf 89 = .ok (.aload_n 0, 1) := by decide +kernel
theorem d_Mod_numberOf_90 : decode b_Mod_numberOf 90 = .ok (.getfield 7, 3) := by decide +kernel
theorem d_Mod_numberOf_93 : decode b_Mod_numberOf 93 = .ok (.iload 8, 2) := by decide +kernel
theorem d_Mod_numberOf_95 : decode b_Mod_numberOf 95 = .ok (.caload, 1) := by decide +kernel
theorem d_Mod_numberOf_96 : decode b_Mod_numberOf 96 = .ok (.iadd, 1) := by decide +kernel
theorem d_Mod_numberOf_97 : decode b_Mod_numberOf 97 = .ok (.bipush 48, 2) := by decide +kernel
theorem d_Mod_numberOf_99 : decode b_Mod_numberOf 99 = .ok (.isub, 1) := by decide +kernel
theorem d_Mod_numberOf_100 : decode b_Mod_numberOf 100 = .ok (.istore 6, 2) := by decide +kernel
theorem d_Mod_numberOf_102 : decode b_Mod_numberOf 102 = .ok (.iload 7, 2) := by decide +kernel
theorem d_Mod_numberOf_104 : decode b_Mod_numberOf 104 = .ok (.bipush 10, 2) := by decide +kernel
theorem d_Mod_numberOf_106 : decode b_Mod_numberOf 106 = .ok (.imul, 1) := by decide +kernel
theorem d_Mod_numberOf_107 : decode b_Mod_numberOf 107 = .ok (.istore 7, 2) := by decide +kernel
theorem d_Mod_numberOf_109 : decode b_Mod_numberOf 109 = .ok (.iinc 8 1, 3) := by decide +kernel
theorem d_Mod_numberOf_112 : decode b_Mod_numberOf 112 = .ok (.goto (-34), 3) := by decide +kernel
theorem d_Mod_numberOf_115 : decode b_Mod_numberOf 115 = .ok (.iload 5, 2) := by decide +kernel
theorem d_Mod_numberOf_117 : decode b_Mod_numberOf 117 = .ok (.sipush 32767, 3) := by decide +kernel
theorem d_Mod_numberOf_120 : decode b_Mod_numberOf 120 = .ok (.if_icmp .le 7, 3) := by decide +kernel
theorem d_Mod_numberOf_123 : decode b_Mod_numberOf 123 = .ok (.iconst (-1), 1) := by decide +kernel
theorem d_Mod_numberOf_124 : decode b_Mod_numberOf 124 = .ok (.goto 21, 3) := by decide +kernel
theorem d_Mod_numberOf_127 : decode b_Mod_numberOf 127 = .ok (.iload 5, 2) := by decide +kernel
theorem d_Mod_numberOf_129 : decode b_Mod_numberOf 129 = .ok (.ldc 97, 2) := by decide +kernel
theorem d_Mod_numberOf_131 : decode b_Mod_numberOf 131 = .ok (.imul, 1) := by decide +kernel
theorem d_Mod_numberOf_132 : decode b_Mod_numberOf 132 = .ok (.iload 6, 2) := by decide +kernel
theorem d_Mod_numberOf_134 : decode b_Mod_numberOf 134 = .ok (.i2l, 1) := by decide +kernel
theorem d_Mod_numberOf_135 : decode b_Mod_numberOf 135 = .ok (.ldc2_w 98, 3) := by decide +kernel
theorem d_Mod_numberOf_138 : decode b_Mod_numberOf 138 = .ok (.lmul, 1) := by decide +kernel
theorem d_Mod_numberOf_139 : decode b_Mod_numberOf 139 = .ok (.iload 7, 2) := by decide +kernel
theorem d_Mod_numberOf_141 : decode b_Mod_numberOf 141 = .ok (.i2l, 1) := by decide +kernel
theorem d_Mod_numberOf_142 : decode b_Mod_numberOf 142 = .ok (.ldiv, 1) := by decide +kernel
theorem d_Mod_numberOf_143 : decode b_Mod_numberOf 143 = .ok (.l2i, 1) := by decide +kernel
theorem d_Mod_numberOf_144 : decode b_Mod_numberOf 144 = .ok (.iadd, 1) := by decide +kernel
theorem d_Mod_numberOf_145 : decode b_Mod_numberOf 145 = .ok (.ireturn, 1) := by decide +kernel
def μ_Mod_numberOf : ax_M := (b_Mod_numberOf, 9, "DotConsoleModel", (some .int), 0, 0, 0, 0)
theorem Y_Mod_numberOf : ax_YV μ_Mod_numberOf y_Mod_numberOf 3 := ⟨⟨ax_mem (by decide +kernel) rfl, ax_mem (by decide +kernel) rfl, by decide, by decide, by decide +kernel⟩, ax_mem (by decide +kernel) rfl, ax_mem (by decide +kernel) rfl⟩
theorem kc_Mod_97 : Cond.constant "DotConsoleModel" 97 (65536) ∈ ax_T := ax_mem (by decide +kernel) rfl
theorem kc_Mod_98 : Cond.constantLong "DotConsoleModel" 98 (65536) ∈ ax_T := ax_mem (by decide +kernel) rfl
def J_Mod_numberOf_78 (N : Nat) : Nat → Int32 → Int32 → Int32 → Int32 → Int32 → St → Option (Int32 × St)
  | 0, _, _, _, _, _, _ => none
  | n + 1, l3, l5, l6, l7, l8, σ => (if l3 ≤ l8 then
  (if l5 ≤ 32767 then
  (if (l7.toInt64) = 0 then none else some (((l5 * 65536) + ((((l6.toInt64) * (65536)) / (l7.toInt64)).toInt32)), σ))
  else some ((-1), σ))
  else (if (inB l8 48) = true then ax_let ((((10 * l6) + (σ.2 0 l8.toNatClampNeg)) - 48) : Int32) (fun v4 =>
  ax_let ((l7 * 10) : Int32) (fun v5 =>
  ax_let ((l8 + 1) : Int32) (fun v6 =>
  J_Mod_numberOf_78 N n l3 l5 v4 v5 v6 σ))) else none))
def J_Mod_numberOf_37 (N : Nat) : Nat → Int32 → Int32 → Int32 → Int32 → St → Option (Int32 × St)
  | 0, _, _, _, _, _ => none
  | n + 1, l2, l3, l5, l6, σ => (if l2 ≤ l6 then
  ax_let ((l2 + 1) : Int32) (fun v1 =>
  J_Mod_numberOf_78 N N l3 l5 0 1 v1 σ)
  else (if (inB l6 48) = true then ax_let ((((10 * l5) + (σ.2 0 l6.toNatClampNeg)) - 48) : Int32) (fun v2 =>
  ax_let ((l6 + 1) : Int32) (fun v3 =>
  J_Mod_numberOf_37 N n l2 l3 v2 v3 σ)) else none))
def J_Mod_numberOf_14 (N : Nat) (t0 : Int32) (l1 : Int32) (l2 : Int32) (l3 : Int32) (σ : St) : Option (Int32 × St) :=
  (if 5 < (l2 - l1) then
  some ((-1), σ)
  else (if t0 ≤ 4 then
  J_Mod_numberOf_37 N N l2 l3 0 l1 σ
  else some ((-1), σ)))
def J_Mod_numberOf (N : Nat) (a1 : Int32) (a2 : Int32) (a3 : Int32) (σ : St) : Option (Int32 × St) :=
  (if a3 ≤ a2 then
  J_Mod_numberOf_14 N 0 a1 a2 a3 σ
  else J_Mod_numberOf_14 N ((a3 - a2) - 1) a1 a2 a3 σ)
set_option maxHeartbeats 1000000 in
theorem t_Mod_numberOf_78 {N : Nat} {g : ax_G} {r9 : Int32} {s9 : St} (x : ax_X) (A : Nat → Prop) : ∀ (n : Nat) (l3 : Int32) (l5 : Int32) (l6 : Int32) (l7 : Int32) (l8 : Int32) (σ : St), J_Mod_numberOf_78 N n l3 l5 l6 l7 l8 σ = some (r9, s9) → AW x μ_Mod_numberOf g A (wM g) (0, 0) (ax_QI x μ_Mod_numberOf g A (wM g) (ax_eqI r9 s9)) 78 [(0, .ref (g.2.1 32)), (3, .int l3), (5, .int l5), (6, .int l6), (7, .int l7), (8, .int l8)] [] σ := by
  intro n
  induction n with
  | zero => intro l3 l5 l6 l7 l8 σ hJ; rw [J_Mod_numberOf_78] at hJ; cases hJ
  | succ n ih =>
    intro l3 l5 l6 l7 l8 σ hJ
    rw [J_Mod_numberOf_78] at hJ
    refine aw_iload (n := 80) d_Mod_numberOf_78 rfl 5 rfl ?_
    refine aw_iload_n (n := 81) d_Mod_numberOf_80 rfl rfl 1 rfl ?_
    refine aw_icmp_ge (n := 84) (t := 115) d_Mod_numberOf_81 rfl (by decide) (fun c5 => ?_) (fun c5 => ?_)
    · rw [if_pos c5] at hJ
      refine aw_iload (n := 117) d_Mod_numberOf_115 rfl 2 rfl ?_
      refine aw_sipush (n := 120) (v := 32767) d_Mod_numberOf_117 rfl (by decide) ?_
      refine aw_icmp_le (n := 123) (t := 127) d_Mod_numberOf_120 rfl (by decide) (fun c6 => ?_) (fun c6 => ?_)
      · rw [if_pos c6] at hJ
        refine aw_iload (n := 129) d_Mod_numberOf_127 rfl 2 rfl ?_
        refine aw_ldc (n := 131) (v := 65536) d_Mod_numberOf_129 rfl kc_Mod_97 ?_
        refine aw_imul (n := 132) d_Mod_numberOf_131 rfl ?_
        refine aw_iload (n := 134) d_Mod_numberOf_132 rfl 3 rfl ?_
        refine aw_i2l (n := 135) d_Mod_numberOf_134 rfl rfl ?_
        refine aw_ldc2 (n := 138) (v := 65536) d_Mod_numberOf_135 rfl kc_Mod_98 ?_
        refine aw_lmul (n := 139) d_Mod_numberOf_138 rfl ?_
        refine aw_iload (n := 141) d_Mod_numberOf_139 rfl 4 rfl ?_
        refine aw_i2l (n := 142) d_Mod_numberOf_141 rfl rfl ?_
        obtain ⟨h2, hJ⟩ := ax_need0 hJ
        refine aw_ldiv (n := 143) d_Mod_numberOf_142 rfl h2 ?_
        refine aw_l2i (n := 144) d_Mod_numberOf_143 rfl rfl ?_
        refine aw_iadd (n := 145) d_Mod_numberOf_144 rfl ?_
        exact aw_iret d_Mod_numberOf_145 rfl (ax_ret hJ)
      · rw [if_neg c6] at hJ
        refine aw_iconst (n := 124) (v := -1) d_Mod_numberOf_123 rfl (by decide) ?_
        refine aw_goto (t := 145) d_Mod_numberOf_124 (by decide) ?_
        exact aw_iret d_Mod_numberOf_145 rfl (ax_ret hJ)
    · rw [if_neg c5] at hJ
      refine aw_bipush (n := 86) (v := 10) d_Mod_numberOf_84 rfl (by decide) ?_
      refine aw_iload (n := 88) d_Mod_numberOf_86 rfl 3 rfl ?_
      refine aw_imul (n := 89) d_Mod_numberOf_88 rfl ?_
      refine aw_aload_n (n := 90) d_Mod_numberOf_89 rfl rfl 0 rfl ?_
      refine gf_Mod_text (n := 93) d_Mod_numberOf_90 rfl kf_Mod_7 ?_
      refine aw_iload (n := 95) d_Mod_numberOf_93 rfl 5 rfl ?_
      obtain ⟨h3, hJ⟩ := ax_need hJ
      refine al_33 (n := 96) d_Mod_numberOf_95 rfl h3 ?_
      refine aw_iadd (n := 97) d_Mod_numberOf_96 rfl ?_
      refine aw_bipush (n := 99) (v := 48) d_Mod_numberOf_97 rfl (by decide) ?_
      refine aw_isub (n := 100) d_Mod_numberOf_99 rfl ?_
      obtain ⟨v4, ev4, hJ⟩ := ax_letE hJ
      refine aw_top ev4 ?_
      refine aw_istore (n := 102) d_Mod_numberOf_100 rfl (by decide) rfl ?_
      refine aw_iload (n := 104) d_Mod_numberOf_102 rfl 4 rfl ?_
      refine aw_bipush (n := 106) (v := 10) d_Mod_numberOf_104 rfl (by decide) ?_
      refine aw_imul (n := 107) d_Mod_numberOf_106 rfl ?_
      obtain ⟨v5, ev5, hJ⟩ := ax_letE hJ
      refine aw_top ev5 ?_
      refine aw_istore (n := 109) d_Mod_numberOf_107 rfl (by decide) rfl ?_
      obtain ⟨v6, ev6, hJ⟩ := ax_letE hJ
      refine aw_iinc (n := 112) (j := 5) (v := v6) d_Mod_numberOf_109 rfl rfl (ev6) (by decide) rfl ?_
      refine aw_goto (t := 78) d_Mod_numberOf_112 (by decide) ?_
      refine aw_sub [3, 4, 5, 2, 1, 0] rfl ?_
      exact ih _ _ _ _ _ _ hJ
set_option maxHeartbeats 1000000 in
theorem t_Mod_numberOf_37 {N : Nat} {g : ax_G} {r9 : Int32} {s9 : St} (x : ax_X) (A : Nat → Prop) : ∀ (n : Nat) (l2 : Int32) (l3 : Int32) (l5 : Int32) (l6 : Int32) (σ : St), J_Mod_numberOf_37 N n l2 l3 l5 l6 σ = some (r9, s9) → AW x μ_Mod_numberOf g A (wM g) (0, 0) (ax_QI x μ_Mod_numberOf g A (wM g) (ax_eqI r9 s9)) 37 [(0, .ref (g.2.1 32)), (2, .int l2), (3, .int l3), (5, .int l5), (6, .int l6)] [] σ := by
  intro n
  induction n with
  | zero => intro l2 l3 l5 l6 σ hJ; rw [J_Mod_numberOf_37] at hJ; cases hJ
  | succ n ih =>
    intro l2 l3 l5 l6 σ hJ
    rw [J_Mod_numberOf_37] at hJ
    refine aw_iload (n := 39) d_Mod_numberOf_37 rfl 4 rfl ?_
    refine aw_iload_n (n := 40) d_Mod_numberOf_39 rfl rfl 1 rfl ?_
    refine aw_icmp_ge (n := 43) (t := 67) d_Mod_numberOf_40 rfl (by decide) (fun c4 => ?_) (fun c4 => ?_)
    · rw [if_pos c4] at hJ
      refine aw_iconst (n := 68) (v := 0) d_Mod_numberOf_67 rfl (by decide) ?_
      refine aw_istore (n := 70) d_Mod_numberOf_68 rfl (by decide) rfl ?_
      refine aw_iconst (n := 71) (v := 1) d_Mod_numberOf_70 rfl (by decide) ?_
      refine aw_istore (n := 73) d_Mod_numberOf_71 rfl (by decide) rfl ?_
      refine aw_iload_n (n := 74) d_Mod_numberOf_73 rfl rfl 3 rfl ?_
      refine aw_iconst (n := 75) (v := 1) d_Mod_numberOf_74 rfl (by decide) ?_
      refine aw_iadd (n := 76) d_Mod_numberOf_75 rfl ?_
      obtain ⟨v1, ev1, hJ⟩ := ax_letE hJ
      refine aw_top ev1 ?_
      refine aw_istore (n := 78) d_Mod_numberOf_76 rfl (by decide) rfl ?_
      refine aw_sub [3, 5, 6, 2, 1, 0] rfl ?_
      exact t_Mod_numberOf_78 x A N _ _ _ _ _ _ hJ
    · rw [if_neg c4] at hJ
      refine aw_bipush (n := 45) (v := 10) d_Mod_numberOf_43 rfl (by decide) ?_
      refine aw_iload (n := 47) d_Mod_numberOf_45 rfl 3 rfl ?_
      refine aw_imul (n := 48) d_Mod_numberOf_47 rfl ?_
      refine aw_aload_n (n := 49) d_Mod_numberOf_48 rfl rfl 0 rfl ?_
      refine gf_Mod_text (n := 52) d_Mod_numberOf_49 rfl kf_Mod_7 ?_
      refine aw_iload (n := 54) d_Mod_numberOf_52 rfl 4 rfl ?_
      obtain ⟨h1, hJ⟩ := ax_need hJ
      refine al_33 (n := 55) d_Mod_numberOf_54 rfl h1 ?_
      refine aw_iadd (n := 56) d_Mod_numberOf_55 rfl ?_
      refine aw_bipush (n := 58) (v := 48) d_Mod_numberOf_56 rfl (by decide) ?_
      refine aw_isub (n := 59) d_Mod_numberOf_58 rfl ?_
      obtain ⟨v2, ev2, hJ⟩ := ax_letE hJ
      refine aw_top ev2 ?_
      refine aw_istore (n := 61) d_Mod_numberOf_59 rfl (by decide) rfl ?_
      obtain ⟨v3, ev3, hJ⟩ := ax_letE hJ
      refine aw_iinc (n := 64) (j := 4) (v := v3) d_Mod_numberOf_61 rfl rfl (ev3) (by decide) rfl ?_
      refine aw_goto (t := 37) d_Mod_numberOf_64 (by decide) ?_
      refine aw_sub [2, 3, 4, 1, 0] rfl ?_
      exact ih _ _ _ _ _ hJ
set_option maxHeartbeats 1000000 in
theorem t_Mod_numberOf_14 {N : Nat} {g : ax_G} {r9 : Int32} {s9 : St} (x : ax_X) (A : Nat → Prop) : ∀ (t0 : Int32) (l1 : Int32) (l2 : Int32) (l3 : Int32) (σ : St), J_Mod_numberOf_14 N t0 l1 l2 l3 σ = some (r9, s9) → AW x μ_Mod_numberOf g A (wM g) (0, 0) (ax_QI x μ_Mod_numberOf g A (wM g) (ax_eqI r9 s9)) 14 [(0, .ref (g.2.1 32)), (1, .int l1), (2, .int l2), (3, .int l3)] [.int t0] σ := by
  intro t0 l1 l2 l3 σ hJ
  rw [J_Mod_numberOf_14] at hJ
  refine aw_istore (n := 16) d_Mod_numberOf_14 rfl (by decide) rfl ?_
  refine aw_iload_n (n := 17) d_Mod_numberOf_16 rfl rfl 3 rfl ?_
  refine aw_iload_n (n := 18) d_Mod_numberOf_17 rfl rfl 2 rfl ?_
  refine aw_isub (n := 19) d_Mod_numberOf_18 rfl ?_
  refine aw_iconst (n := 20) (v := 5) d_Mod_numberOf_19 rfl (by decide) ?_
  refine aw_icmp_gt (n := 23) (t := 29) d_Mod_numberOf_20 rfl (by decide) (fun c2 => ?_) (fun c2 => ?_)
  · rw [if_pos c2] at hJ
    refine aw_iconst (n := 30) (v := -1) d_Mod_numberOf_29 rfl (by decide) ?_
    exact aw_iret d_Mod_numberOf_30 rfl (ax_ret hJ)
  · rw [if_neg c2] at hJ
    refine aw_iload (n := 25) d_Mod_numberOf_23 rfl 0 rfl ?_
    refine aw_iconst (n := 26) (v := 4) d_Mod_numberOf_25 rfl (by decide) ?_
    refine aw_icmp_le (n := 29) (t := 31) d_Mod_numberOf_26 rfl (by decide) (fun c3 => ?_) (fun c3 => ?_)
    · rw [if_pos c3] at hJ
      refine aw_iconst (n := 32) (v := 0) d_Mod_numberOf_31 rfl (by decide) ?_
      refine aw_istore (n := 34) d_Mod_numberOf_32 rfl (by decide) rfl ?_
      refine aw_iload_n (n := 35) d_Mod_numberOf_34 rfl rfl 3 rfl ?_
      refine aw_istore (n := 37) d_Mod_numberOf_35 rfl (by decide) rfl ?_
      refine aw_sub [3, 5, 6, 1, 0] rfl ?_
      exact t_Mod_numberOf_37 x A N _ _ _ _ _ hJ
    · rw [if_neg c3] at hJ
      refine aw_iconst (n := 30) (v := -1) d_Mod_numberOf_29 rfl (by decide) ?_
      exact aw_iret d_Mod_numberOf_30 rfl (ax_ret hJ)
set_option maxHeartbeats 1000000 in
theorem c_Mod_numberOf {N : Nat} {g : ax_G} {a1 : Int32} {a2 : Int32} {a3 : Int32} {σ : St} {r9 : Int32} {s9 : St} (hJ : J_Mod_numberOf N a1 a2 a3 σ = some (r9, s9)) : ax_CI μ_Mod_numberOf g y_Mod_numberOf (wM g) [.ref (g.2.1 32), .int a1, .int a2, .int a3] σ (ax_eqI r9 s9) := by
  refine ax_CI.of (plainFor_of_name rfl) rfl (Nat.le_of_ble_eq_true rfl) (fun x A _ => ?_)
  show AW x μ_Mod_numberOf g A (wM g) (0, 0) (ax_QI x μ_Mod_numberOf g A (wM g) (ax_eqI r9 s9)) 0 [(0, .ref (g.2.1 32)), (1, .int a1), (2, .int a2), (3, .int a3)] [] σ
  rw [J_Mod_numberOf] at hJ
  refine aw_iload_n (n := 1) d_Mod_numberOf_0 rfl rfl 3 rfl ?_
  refine aw_iload_n (n := 2) d_Mod_numberOf_1 rfl rfl 2 rfl ?_
  refine aw_icmp_le (n := 5) (t := 13) d_Mod_numberOf_2 rfl (by decide) (fun c1 => ?_) (fun c1 => ?_)
  · rw [if_pos c1] at hJ
    refine aw_iconst (n := 14) (v := 0) d_Mod_numberOf_13 rfl (by decide) ?_
    exact t_Mod_numberOf_14 x A _ _ _ _ _ hJ
  · rw [if_neg c1] at hJ
    refine aw_iload_n (n := 6) d_Mod_numberOf_5 rfl rfl 3 rfl ?_
    refine aw_iload_n (n := 7) d_Mod_numberOf_6 rfl rfl 2 rfl ?_
    refine aw_isub (n := 8) d_Mod_numberOf_7 rfl ?_
    refine aw_iconst (n := 9) (v := 1) d_Mod_numberOf_8 rfl (by decide) ?_
    refine aw_isub (n := 10) d_Mod_numberOf_9 rfl ?_
    refine aw_goto (t := 14) d_Mod_numberOf_10 (by decide) ?_
    exact t_Mod_numberOf_14 x A _ _ _ _ _ hJ
abbrev b_Mod_nameOf : ByteArray := prog_10_method_9_code
def y_Mod_nameOf : MethodName := ⟨"DotConsoleModel", "nameOf", "(III)I"⟩
theorem d_Mod_nameOf_0 : decode b_Mod_nameOf 0 = .ok (.iconst 0, 1) := by decide +kernel
theorem d_Mod_nameOf_1 : decode b_Mod_nameOf 1 = .ok (.istore 4, 2) := by decide +kernel
theorem d_Mod_nameOf_3 : decode b_Mod_nameOf 3 = .ok (.iload 4, 2) := by decide +kernel
theorem d_Mod_nameOf_5 : decode b_Mod_nameOf 5 = .ok (.iload_n 3, 1) := by decide +kernel
theorem d_Mod_nameOf_6 : decode b_Mod_nameOf 6 = .ok (.if_icmp .ge 76, 3) := by decide +kernel
theorem d_Mod_nameOf_9 : decode b_Mod_nameOf 9 = .ok (.iconst 1, 1) := by decide +kernel
theorem d_Mod_nameOf_10 : decode b_Mod_nameOf 10 = .ok (.istore 5, 2) := by decide +kernel
theorem d_Mod_nameOf_12 : decode b_Mod_nameOf 12 = .ok (.iconst 0, 1) := by decide +kernel
theorem d_Mod_nameOf_13 : decode b_Mod_nameOf 13 = .ok (.istore 6, 2) := by decide +kernel
theorem d_Mod_nameOf_15 : decode b_Mod_nameOf 15 = .ok (.iload 6, 2) := by decide +kernel
theorem d_Mod_nameOf_17 : decode b_Mod_nameOf 17 = .ok (.bipush 6, 2) := by decide +kernel
theorem d_Mod_nameOf_19 : decode b_Mod_nameOf 19 = .ok (.if_icmp .ge 49, 3) := by decide +kernel
theorem d_Mod_nameOf_22 : decode b_Mod_nameOf 22 = .ok (.aload_n 0, 1) := by decide +kernel
theorem d_Mod_nameOf_23 : decode b_Mod_nameOf 23 = .ok (.getfield 33, 3) := by decide +kernel
theorem d_Mod_nameOf_26 : decode b_Mod_nameOf 26 = .ok (.bipush 6, 2) := by decide +kernel
theorem d_Mod_nameOf_28 : decode b_Mod_nameOf 28 = .ok (.iload 4, 2) := by decide +kernel
theorem d_Mod_nameOf_30 : decode b_Mod_nameOf 30 = .ok (.imul, 1) := by decide +kernel
theorem d_Mod_nameOf_31 : decode b_Mod_nameOf 31 = .ok (.iload 6, 2) := by decide +kernel
theorem d_Mod_nameOf_33 : decode b_Mod_nameOf 33 = .ok (.iadd, 1) := by decide +kernel
theorem d_Mod_nameOf_34 : decode b_Mod_nameOf 34 = .ok (.caload, 1) := by decide +kernel
theorem d_Mod_nameOf_35 : decode b_Mod_nameOf 35 = .ok (.iload_n 1, 1) := by decide +kernel
theorem d_Mod_nameOf_36 : decode b_Mod_nameOf 36 = .ok (.iload 6, 2) := by decide +kernel
theorem d_Mod_nameOf_38 : decode b_Mod_nameOf 38 = .ok (.iadd, 1) := by decide +kernel
theorem d_Mod_nameOf_39 : decode b_Mod_nameOf 39 = .ok (.iload_n 2, 1) := by decide +kernel
theorem d_Mod_nameOf_40 : decode b_Mod_nameOf 40 = .ok (.if_icmp .ge 15, 3) := by decide +kernel
theorem d_Mod_nameOf_43 : decode b_Mod_nameOf 43 = .ok (.aload_n 0, 1) := by decide +kernel
theorem d_Mod_nameOf_44 : decode b_Mod_nameOf 44 = .ok (.getfield 7, 3) := by decide +kernel
theorem d_Mod_nameOf_47 : decode b_Mod_nameOf 47 = .ok (.iload_n 1, 1) := by decide +kernel
theorem d_Mod_nameOf_48 : decode b_Mod_nameOf 48 = .ok (.iload 6, 2) := by decide +kernel
theorem d_Mod_nameOf_50 : decode b_Mod_nameOf 50 = .ok (.iadd, 1) := by decide +kernel
theorem d_Mod_nameOf_51 : decode b_Mod_nameOf 51 = .ok (.caload, 1) := by decide +kernel
theorem d_Mod_nameOf_52 : decode b_Mod_nameOf 52 = .ok (.goto 4, 3) := by decide +kernel
theorem d_Mod_nameOf_55 : decode b_Mod_nameOf 55 = .ok (.iconst 0, 1) := by decide +kernel
theorem d_Mod_nameOf_56 : decode b_Mod_nameOf 56 = .ok (.if_icmp .eq 6, 3) := by decide +kernel
theorem d_Mod_nameOf_59 : decode b_Mod_nameOf 59 = .ok (.iconst 0, 1) := by decide +kernel
theorem d_Mod_nameOf_60 : decode b_Mod_nameOf 60 = .ok (.istore 5, 2) := by decide +kernel
theorem d_Mod_nameOf_62 : decode b_Mod_nameOf 62 = .ok (.iinc 6 1, 3) := by decide +kernel
theorem d_Mod_nameOf_65 : decode b_Mod_nameOf 65 = .ok (.goto (-50), 3) := by decide +kernel
theorem d_Mod_nameOf_68 : decode b_Mod_nameOf 68 = .ok (.iload 5, 2) := by decide +kernel
theorem d_Mod_nameOf_70 : decode b_Mod_nameOf 70 = .ok (.ifCond .eq 6, 3) := by decide +kernel
theorem d_Mod_nameOf_73 : decode b_Mod_nameOf 73 = .ok (.iload 4, 2) := by decide +kernel
theorem d_Mod_nameOf_75 : decode b_Mod_nameOf 75 = .ok (.ireturn, 1) := by decide +kernel
theorem d_Mod_nameOf_76 : decode b_Mod_nameOf 76 = .ok (.iinc 4 1, 3) := by decide +kernel
theorem d_Mod_nameOf_79 : decode b_Mod_nameOf 79 = .ok (.goto (-76), 3) := by decide +kernel
theorem d_Mod_nameOf_82 : decode b_Mod_nameOf 82 = .ok (.iconst 0, 1) := by decide +kernel
theorem d_Mod_nameOf_83 : decode b_Mod_nameOf 83 = .ok (.istore 4, 2) := by decide +kernel
theorem d_Mod_nameOf_85 : decode b_Mod_nameOf 85 = .ok (.iload 4, 2) := by decide +kernel
theorem d_Mod_nameOf_87 : decode b_Mod_nameOf 87 = .ok (.bipush 6, 2) := by decide +kernel
theorem d_Mod_nameOf_89 : decode b_Mod_nameOf 89 = .ok (.if_icmp .ge 42, 3) := by decide +kernel
theorem d_Mod_nameOf_92 : decode b_Mod_nameOf 92 = .ok (.aload_n 0, 1) := by decide +kernel
theorem d_Mod_nameOf_93 : decode b_Mod_nameOf 93 = .ok (.getfield 33, 3) := by decide +kernel
theorem d_Mod_nameOf_96 : decode b_Mod_nameOf 96 = .ok (.bipush 6, 2) := by decide +kernel
theorem d_Mod_nameOf_98 : decode b_Mod_nameOf 98 = .ok (.iload_n 3, 1) := by decide +kernel
theorem d_Mod_nameOf_99 : decode b_Mod_nameOf 99 = .ok (.imul, 1) := by decide +kernel
theorem d_Mod_nameOf_100 : decode b_Mod_nameOf 100 = .ok (.iload 4, 2) := by decide +kernel
theorem d_Mod_nameOf_102 : decode b_Mod_nameOf 102 = .ok (.iadd, 1) := by decide +kernel
theorem d_Mod_nameOf_103 : decode b_Mod_nameOf 103 = .ok (.iload_n 1, 1) := by decide +kernel
theorem d_Mod_nameOf_104 : decode b_Mod_nameOf 104 = .ok (.iload 4, 2) := by decide +kernel
theorem d_Mod_nameOf_106 : decode b_Mod_nameOf 106 = .ok (.iadd, 1) := by decide +kernel
theorem d_Mod_nameOf_107 : decode b_Mod_nameOf 107 = .ok (.iload_n 2, 1) := by decide +kernel
theorem d_Mod_nameOf_108 : decode b_Mod_nameOf 108 = .ok (.if_icmp .ge 15, 3) := by decide +kernel
theorem d_Mod_nameOf_111 : decode b_Mod_nameOf 111 = .ok (.aload_n 0, 1) := by decide +kernel
theorem d_Mod_nameOf_112 : decode b_Mod_nameOf 112 = .ok (.getfield 7, 3) := by decide +kernel
theorem d_Mod_nameOf_115 : decode b_Mod_nameOf 115 = .ok (.iload_n 1, 1) := by decide +kernel
theorem d_Mod_nameOf_116 : decode b_Mod_nameOf 116 = .ok (.iload 4, 2) := by decide +kernel
theorem d_Mod_nameOf_118 : decode b_Mod_nameOf 118 = .ok (.iadd, 1) := by decide +kernel
theorem d_Mod_nameOf_119 : decode b_Mod_nameOf 119 = .ok (.caload, 1) := by decide +kernel
theorem d_Mod_nameOf_120 : decode b_Mod_nameOf 120 = .ok (.goto 4, 3) := by decide +kernel
theorem d_Mod_nameOf_123 : decode b_Mod_nameOf 123 = .ok (.iconst 0, 1) := by decide +kernel
theorem d_Mod_nameOf_124 : decode b_Mod_nameOf 124 = .ok (.castore, 1) := by decide +kernel
theorem d_Mod_nameOf_125 : decode b_Mod_nameOf 125 = .ok (.iinc 4 1, 3) := by decide +kernel
theorem d_Mod_nameOf_128 : decode b_Mod_nameOf 128 = .ok (.goto (-43), 3) := by decide +kernel
theorem d_Mod_nameOf_131 : decode b_Mod_nameOf 131 = .ok (.iload_n 3, 1) := by decide +kernel
theorem d_Mod_nameOf_132 : decode b_Mod_nameOf 132 = .ok (.ireturn, 1) := by decide +kernel
def μ_Mod_nameOf : ax_M := (b_Mod_nameOf, 7, "DotConsoleModel", (some .int), 0, 0, 0, 0)
theorem Y_Mod_nameOf : ax_YV μ_Mod_nameOf y_Mod_nameOf 3 := ⟨⟨ax_mem (by decide +kernel) rfl, ax_mem (by decide +kernel) rfl, by decide, by decide, by decide +kernel⟩, ax_mem (by decide +kernel) rfl, ax_mem (by decide +kernel) rfl⟩
theorem kf_Mod_33 : Cond.fieldLink "DotConsoleModel" 33 "DotConsoleModel" "nameText" "[C" ∈ ax_T := ax_mem (by decide +kernel) rfl
def J_Mod_nameOf_15 (N : Nat) (K3 : Int32 → Int32 → Int32 → Int32 → St → Option (Int32 × St)) : Nat → Int32 → Int32 → Int32 → Int32 → Int32 → Int32 → St → Option (Int32 × St)
  | 0, _, _, _, _, _, _, _ => none
  | n + 1, l1, l2, l3, l4, l5, l6, σ => (if 6 ≤ l6 then
  (if l5 = 0 then
  ax_let ((l4 + 1) : Int32) (fun v3 =>
  K3 l1 l2 l3 v3 σ)
  else some (l4, σ))
  else (if (inB ((6 * l4) + l6) 600) = true then (if l2 ≤ (l1 + l6) then
  (if (σ.2 6 ((6 * l4) + l6).toNatClampNeg) = 0 then
  ax_let ((l6 + 1) : Int32) (fun v4 =>
  J_Mod_nameOf_15 N K3 n l1 l2 l3 l4 l5 v4 σ)
  else ax_let ((l6 + 1) : Int32) (fun v5 =>
  J_Mod_nameOf_15 N K3 n l1 l2 l3 l4 0 v5 σ))
  else (if (inB (l1 + l6) 48) = true then (if (σ.2 6 ((6 * l4) + l6).toNatClampNeg) = (σ.2 0 (l1 + l6).toNatClampNeg) then
  ax_let ((l6 + 1) : Int32) (fun v6 =>
  J_Mod_nameOf_15 N K3 n l1 l2 l3 l4 l5 v6 σ)
  else ax_let ((l6 + 1) : Int32) (fun v7 =>
  J_Mod_nameOf_15 N K3 n l1 l2 l3 l4 0 v7 σ)) else none)) else none))
def J_Mod_nameOf_85 (N : Nat) : Nat → Int32 → Int32 → Int32 → Int32 → St → Option (Int32 × St)
  | 0, _, _, _, _, _ => none
  | n + 1, l1, l2, l3, l4, σ => (if 6 ≤ l4 then
  some (l3, σ)
  else (if l2 ≤ (l1 + l4) then
  (if (inB ((6 * l3) + l4) 600) = true then ax_let (sA σ 6 ((6 * l3) + l4).toNatClampNeg (vp_nar .char 0)) (fun σ1 =>
  ax_let ((l4 + 1) : Int32) (fun v1 =>
  J_Mod_nameOf_85 N n l1 l2 l3 v1 σ1)) else none)
  else (if (inB (l1 + l4) 48) = true then (if (inB ((6 * l3) + l4) 600) = true then ax_let (sA σ 6 ((6 * l3) + l4).toNatClampNeg (vp_nar .char (σ.2 0 (l1 + l4).toNatClampNeg))) (fun σ2 =>
  ax_let ((l4 + 1) : Int32) (fun v2 =>
  J_Mod_nameOf_85 N n l1 l2 l3 v2 σ2)) else none) else none)))
def J_Mod_nameOf_3 (N : Nat) : Nat → Int32 → Int32 → Int32 → Int32 → St → Option (Int32 × St)
  | 0, _, _, _, _, _ => none
  | n + 1, l1, l2, l3, l4, σ => (if l3 ≤ l4 then
  J_Mod_nameOf_85 N N l1 l2 l3 0 σ
  else J_Mod_nameOf_15 N (fun l1 l2 l3 l4 σ => J_Mod_nameOf_3 N n l1 l2 l3 l4 σ) N l1 l2 l3 l4 1 0 σ)
def J_Mod_nameOf (N : Nat) (a1 : Int32) (a2 : Int32) (a3 : Int32) (σ : St) : Option (Int32 × St) :=
  J_Mod_nameOf_3 N N a1 a2 a3 0 σ
set_option maxHeartbeats 1000000 in
theorem t_Mod_nameOf_15 {N : Nat} {g : ax_G} {r9 : Int32} {s9 : St} (x : ax_X) (A : Nat → Prop) {K3 : Int32 → Int32 → Int32 → Int32 → St → Option (Int32 × St)} (hK3 : ∀ (l1 : Int32) (l2 : Int32) (l3 : Int32) (l4 : Int32) (σ : St), K3 l1 l2 l3 l4 σ = some (r9, s9) → AW x μ_Mod_nameOf g A (wM g) (0, 0) (ax_QI x μ_Mod_nameOf g A (wM g) (ax_eqI r9 s9)) 3 [(0, .ref (g.2.1 32)), (1, .int l1), (2, .int l2), (3, .int l3), (4, .int l4)] [] σ) : ∀ (n : Nat) (l1 : Int32) (l2 : Int32) (l3 : Int32) (l4 : Int32) (l5 : Int32) (l6 : Int32) (σ : St), J_Mod_nameOf_15 N K3 n l1 l2 l3 l4 l5 l6 σ = some (r9, s9) → AW x μ_Mod_nameOf g A (wM g) (0, 0) (ax_QI x μ_Mod_nameOf g A (wM g) (ax_eqI r9 s9)) 15 [(0, .ref (g.2.1 32)), (1, .int l1), (2, .int l2), (3, .int l3), (4, .int l4), (5, .int l5), (6, .int l6)] [] σ := by
  intro n
  induction n with
  | zero => intro l1 l2 l3 l4 l5 l6 σ hJ; rw [J_Mod_nameOf_15] at hJ; cases hJ
  | succ n ih =>
    intro l1 l2 l3 l4 l5 l6 σ hJ
    rw [J_Mod_nameOf_15] at hJ
    refine aw_iload (n := 17) d_Mod_nameOf_15 rfl 6 rfl ?_
    refine aw_bipush (n := 19) (v := 6) d_Mod_nameOf_17 rfl (by decide) ?_
    refine aw_icmp_ge (n := 22) (t := 68) d_Mod_nameOf_19 rfl (by decide) (fun c4 => ?_) (fun c4 => ?_)
    · rw [if_pos c4] at hJ
      refine aw_iload (n := 70) d_Mod_nameOf_68 rfl 5 rfl ?_
      refine aw_if_eq (n := 73) (t := 76) d_Mod_nameOf_70 rfl (by decide) (fun c5 => ?_) (fun c5 => ?_)
      · rw [if_pos c5] at hJ
        obtain ⟨v3, ev3, hJ⟩ := ax_letE hJ
        refine aw_iinc (n := 79) (j := 4) (v := v3) d_Mod_nameOf_76 rfl rfl (ev3) (by decide) rfl ?_
        refine aw_goto (t := 3) d_Mod_nameOf_79 (by decide) ?_
        refine aw_sub [1, 2, 3, 4, 0] rfl ?_
        exact hK3 _ _ _ _ _ hJ
      · rw [if_neg c5] at hJ
        refine aw_iload (n := 75) d_Mod_nameOf_73 rfl 4 rfl ?_
        exact aw_iret d_Mod_nameOf_75 rfl (ax_ret hJ)
    · rw [if_neg c4] at hJ
      refine aw_aload_n (n := 23) d_Mod_nameOf_22 rfl rfl 0 rfl ?_
      refine gf_Mod_nameText (n := 26) d_Mod_nameOf_23 rfl kf_Mod_33 ?_
      refine aw_bipush (n := 28) (v := 6) d_Mod_nameOf_26 rfl (by decide) ?_
      refine aw_iload (n := 30) d_Mod_nameOf_28 rfl 4 rfl ?_
      refine aw_imul (n := 31) d_Mod_nameOf_30 rfl ?_
      refine aw_iload (n := 33) d_Mod_nameOf_31 rfl 6 rfl ?_
      refine aw_iadd (n := 34) d_Mod_nameOf_33 rfl ?_
      obtain ⟨h4, hJ⟩ := ax_need hJ
      refine al_39 (n := 35) d_Mod_nameOf_34 rfl h4 ?_
      refine aw_iload_n (n := 36) d_Mod_nameOf_35 rfl rfl 1 rfl ?_
      refine aw_iload (n := 38) d_Mod_nameOf_36 rfl 6 rfl ?_
      refine aw_iadd (n := 39) d_Mod_nameOf_38 rfl ?_
      refine aw_iload_n (n := 40) d_Mod_nameOf_39 rfl rfl 2 rfl ?_
      refine aw_icmp_ge (n := 43) (t := 55) d_Mod_nameOf_40 rfl (by decide) (fun c6 => ?_) (fun c6 => ?_)
      · rw [if_pos c6] at hJ
        refine aw_iconst (n := 56) (v := 0) d_Mod_nameOf_55 rfl (by decide) ?_
        refine aw_icmp_eq (n := 59) (t := 62) d_Mod_nameOf_56 rfl (by decide) (fun c7 => ?_) (fun c7 => ?_)
        · rw [if_pos c7] at hJ
          obtain ⟨v4, ev4, hJ⟩ := ax_letE hJ
          refine aw_iinc (n := 65) (j := 6) (v := v4) d_Mod_nameOf_62 rfl rfl (ev4) (by decide) rfl ?_
          refine aw_goto (t := 15) d_Mod_nameOf_65 (by decide) ?_
          refine aw_sub [1, 2, 3, 4, 5, 6, 0] rfl ?_
          exact ih _ _ _ _ _ _ _ hJ
        · rw [if_neg c7] at hJ
          refine aw_iconst (n := 60) (v := 0) d_Mod_nameOf_59 rfl (by decide) ?_
          refine aw_istore (n := 62) d_Mod_nameOf_60 rfl (by decide) rfl ?_
          obtain ⟨v5, ev5, hJ⟩ := ax_letE hJ
          refine aw_iinc (n := 65) (j := 6) (v := v5) d_Mod_nameOf_62 rfl rfl (ev5) (by decide) rfl ?_
          refine aw_goto (t := 15) d_Mod_nameOf_65 (by decide) ?_
          refine aw_sub [2, 3, 4, 5, 6, 1, 0] rfl ?_
          exact ih _ _ _ _ _ _ _ hJ
      · rw [if_neg c6] at hJ
        refine aw_aload_n (n := 44) d_Mod_nameOf_43 rfl rfl 0 rfl ?_
        refine gf_Mod_text (n := 47) d_Mod_nameOf_44 rfl kf_Mod_7 ?_
        refine aw_iload_n (n := 48) d_Mod_nameOf_47 rfl rfl 1 rfl ?_
        refine aw_iload (n := 50) d_Mod_nameOf_48 rfl 6 rfl ?_
        refine aw_iadd (n := 51) d_Mod_nameOf_50 rfl ?_
        obtain ⟨h5, hJ⟩ := ax_need hJ
        refine al_33 (n := 52) d_Mod_nameOf_51 rfl h5 ?_
        refine aw_goto (t := 56) d_Mod_nameOf_52 (by decide) ?_
        refine aw_icmp_eq (n := 59) (t := 62) d_Mod_nameOf_56 rfl (by decide) (fun c8 => ?_) (fun c8 => ?_)
        · rw [if_pos c8] at hJ
          obtain ⟨v6, ev6, hJ⟩ := ax_letE hJ
          refine aw_iinc (n := 65) (j := 6) (v := v6) d_Mod_nameOf_62 rfl rfl (ev6) (by decide) rfl ?_
          refine aw_goto (t := 15) d_Mod_nameOf_65 (by decide) ?_
          refine aw_sub [1, 2, 3, 4, 5, 6, 0] rfl ?_
          exact ih _ _ _ _ _ _ _ hJ
        · rw [if_neg c8] at hJ
          refine aw_iconst (n := 60) (v := 0) d_Mod_nameOf_59 rfl (by decide) ?_
          refine aw_istore (n := 62) d_Mod_nameOf_60 rfl (by decide) rfl ?_
          obtain ⟨v7, ev7, hJ⟩ := ax_letE hJ
          refine aw_iinc (n := 65) (j := 6) (v := v7) d_Mod_nameOf_62 rfl rfl (ev7) (by decide) rfl ?_
          refine aw_goto (t := 15) d_Mod_nameOf_65 (by decide) ?_
          refine aw_sub [2, 3, 4, 5, 6, 1, 0] rfl ?_
          exact ih _ _ _ _ _ _ _ hJ
set_option maxHeartbeats 1000000 in
theorem t_Mod_nameOf_85 {N : Nat} {g : ax_G} {r9 : Int32} {s9 : St} (x : ax_X) (A : Nat → Prop) : ∀ (n : Nat) (l1 : Int32) (l2 : Int32) (l3 : Int32) (l4 : Int32) (σ : St), J_Mod_nameOf_85 N n l1 l2 l3 l4 σ = some (r9, s9) → AW x μ_Mod_nameOf g A (wM g) (0, 0) (ax_QI x μ_Mod_nameOf g A (wM g) (ax_eqI r9 s9)) 85 [(0, .ref (g.2.1 32)), (1, .int l1), (2, .int l2), (3, .int l3), (4, .int l4)] [] σ := by
  intro n
  induction n with
  | zero => intro l1 l2 l3 l4 σ hJ; rw [J_Mod_nameOf_85] at hJ; cases hJ
  | succ n ih =>
    intro l1 l2 l3 l4 σ hJ
    rw [J_Mod_nameOf_85] at hJ
    refine aw_iload (n := 87) d_Mod_nameOf_85 rfl 4 rfl ?_
    refine aw_bipush (n := 89) (v := 6) d_Mod_nameOf_87 rfl (by decide) ?_
    refine aw_icmp_ge (n := 92) (t := 131) d_Mod_nameOf_89 rfl (by decide) (fun c2 => ?_) (fun c2 => ?_)
    · rw [if_pos c2] at hJ
      refine aw_iload_n (n := 132) d_Mod_nameOf_131 rfl rfl 3 rfl ?_
      exact aw_iret d_Mod_nameOf_132 rfl (ax_ret hJ)
    · rw [if_neg c2] at hJ
      refine aw_aload_n (n := 93) d_Mod_nameOf_92 rfl rfl 0 rfl ?_
      refine gf_Mod_nameText (n := 96) d_Mod_nameOf_93 rfl kf_Mod_33 ?_
      refine aw_bipush (n := 98) (v := 6) d_Mod_nameOf_96 rfl (by decide) ?_
      refine aw_iload_n (n := 99) d_Mod_nameOf_98 rfl rfl 3 rfl ?_
      refine aw_imul (n := 100) d_Mod_nameOf_99 rfl ?_
      refine aw_iload (n := 102) d_Mod_nameOf_100 rfl 4 rfl ?_
      refine aw_iadd (n := 103) d_Mod_nameOf_102 rfl ?_
      refine aw_iload_n (n := 104) d_Mod_nameOf_103 rfl rfl 1 rfl ?_
      refine aw_iload (n := 106) d_Mod_nameOf_104 rfl 4 rfl ?_
      refine aw_iadd (n := 107) d_Mod_nameOf_106 rfl ?_
      refine aw_iload_n (n := 108) d_Mod_nameOf_107 rfl rfl 2 rfl ?_
      refine aw_icmp_ge (n := 111) (t := 123) d_Mod_nameOf_108 rfl (by decide) (fun c3 => ?_) (fun c3 => ?_)
      · rw [if_pos c3] at hJ
        refine aw_iconst (n := 124) (v := 0) d_Mod_nameOf_123 rfl (by decide) ?_
        obtain ⟨h1, hJ⟩ := ax_need hJ
        refine as_39 (n := 125) d_Mod_nameOf_124 rfl h1 ?_
        obtain ⟨σ1, eσ1, hJ⟩ := ax_letE hJ
        refine aw_let eσ1 ?_
        obtain ⟨v1, ev1, hJ⟩ := ax_letE hJ
        refine aw_iinc (n := 128) (j := 4) (v := v1) d_Mod_nameOf_125 rfl rfl (ev1) (by decide) rfl ?_
        refine aw_goto (t := 85) d_Mod_nameOf_128 (by decide) ?_
        refine aw_sub [1, 2, 3, 4, 0] rfl ?_
        exact ih _ _ _ _ _ hJ
      · rw [if_neg c3] at hJ
        refine aw_aload_n (n := 112) d_Mod_nameOf_111 rfl rfl 0 rfl ?_
        refine gf_Mod_text (n := 115) d_Mod_nameOf_112 rfl kf_Mod_7 ?_
        refine aw_iload_n (n := 116) d_Mod_nameOf_115 rfl rfl 1 rfl ?_
        refine aw_iload (n := 118) d_Mod_nameOf_116 rfl 4 rfl ?_
        refine aw_iadd (n := 119) d_Mod_nameOf_118 rfl ?_
        obtain ⟨h2, hJ⟩ := ax_need hJ
        refine al_33 (n := 120) d_Mod_nameOf_119 rfl h2 ?_
        refine aw_goto (t := 124) d_Mod_nameOf_120 (by decide) ?_
        obtain ⟨h3, hJ⟩ := ax_need hJ
        refine as_39 (n := 125) d_Mod_nameOf_124 rfl h3 ?_
        obtain ⟨σ2, eσ2, hJ⟩ := ax_letE hJ
        refine aw_let eσ2 ?_
        obtain ⟨v2, ev2, hJ⟩ := ax_letE hJ
        refine aw_iinc (n := 128) (j := 4) (v := v2) d_Mod_nameOf_125 rfl rfl (ev2) (by decide) rfl ?_
        refine aw_goto (t := 85) d_Mod_nameOf_128 (by decide) ?_
        refine aw_sub [1, 2, 3, 4, 0] rfl ?_
        exact ih _ _ _ _ _ hJ
set_option maxHeartbeats 1000000 in
theorem t_Mod_nameOf_3 {N : Nat} {g : ax_G} {r9 : Int32} {s9 : St} (x : ax_X) (A : Nat → Prop) : ∀ (n : Nat) (l1 : Int32) (l2 : Int32) (l3 : Int32) (l4 : Int32) (σ : St), J_Mod_nameOf_3 N n l1 l2 l3 l4 σ = some (r9, s9) → AW x μ_Mod_nameOf g A (wM g) (0, 0) (ax_QI x μ_Mod_nameOf g A (wM g) (ax_eqI r9 s9)) 3 [(0, .ref (g.2.1 32)), (1, .int l1), (2, .int l2), (3, .int l3), (4, .int l4)] [] σ := by
  intro n
  induction n with
  | zero => intro l1 l2 l3 l4 σ hJ; rw [J_Mod_nameOf_3] at hJ; cases hJ
  | succ n ih =>
    intro l1 l2 l3 l4 σ hJ
    rw [J_Mod_nameOf_3] at hJ
    refine aw_iload (n := 5) d_Mod_nameOf_3 rfl 4 rfl ?_
    refine aw_iload_n (n := 6) d_Mod_nameOf_5 rfl rfl 3 rfl ?_
    refine aw_icmp_ge (n := 9) (t := 82) d_Mod_nameOf_6 rfl (by decide) (fun c1 => ?_) (fun c1 => ?_)
    · rw [if_pos c1] at hJ
      refine aw_iconst (n := 83) (v := 0) d_Mod_nameOf_82 rfl (by decide) ?_
      refine aw_istore (n := 85) d_Mod_nameOf_83 rfl (by decide) rfl ?_
      refine aw_sub [1, 2, 3, 4, 0] rfl ?_
      exact t_Mod_nameOf_85 x A N _ _ _ _ _ hJ
    · rw [if_neg c1] at hJ
      refine aw_iconst (n := 10) (v := 1) d_Mod_nameOf_9 rfl (by decide) ?_
      refine aw_istore (n := 12) d_Mod_nameOf_10 rfl (by decide) rfl ?_
      refine aw_iconst (n := 13) (v := 0) d_Mod_nameOf_12 rfl (by decide) ?_
      refine aw_istore (n := 15) d_Mod_nameOf_13 rfl (by decide) rfl ?_
      refine aw_sub [2, 3, 4, 5, 6, 1, 0] rfl ?_
      exact t_Mod_nameOf_15 x A ih N _ _ _ _ _ _ _ hJ
set_option maxHeartbeats 1000000 in
theorem c_Mod_nameOf {N : Nat} {g : ax_G} {a1 : Int32} {a2 : Int32} {a3 : Int32} {σ : St} {r9 : Int32} {s9 : St} (hJ : J_Mod_nameOf N a1 a2 a3 σ = some (r9, s9)) : ax_CI μ_Mod_nameOf g y_Mod_nameOf (wM g) [.ref (g.2.1 32), .int a1, .int a2, .int a3] σ (ax_eqI r9 s9) := by
  refine ax_CI.of (plainFor_of_name rfl) rfl (Nat.le_of_ble_eq_true rfl) (fun x A _ => ?_)
  show AW x μ_Mod_nameOf g A (wM g) (0, 0) (ax_QI x μ_Mod_nameOf g A (wM g) (ax_eqI r9 s9)) 0 [(0, .ref (g.2.1 32)), (1, .int a1), (2, .int a2), (3, .int a3)] [] σ
  rw [J_Mod_nameOf] at hJ
  refine aw_iconst (n := 1) (v := 0) d_Mod_nameOf_0 rfl (by decide) ?_
  refine aw_istore (n := 3) d_Mod_nameOf_1 rfl (by decide) rfl ?_
  refine aw_sub [1, 2, 3, 4, 0] rfl ?_
  exact t_Mod_nameOf_3 x A N _ _ _ _ _ hJ
