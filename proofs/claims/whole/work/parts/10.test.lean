abbrev b_Names_findOrSee : ByteArray := prog_4_method_4_code
def y_Names_findOrSee : MethodName := ⟨"DotConsole$Names", "findOrSee", "(I)I"⟩
theorem d_Names_findOrSee_0 : decode b_Names_findOrSee 0 = .ok (.iconst 0, 1) := by decide +kernel
theorem d_Names_findOrSee_1 : decode b_Names_findOrSee 1 = .ok (.istore_n 2, 1) := by decide +kernel
theorem d_Names_findOrSee_2 : decode b_Names_findOrSee 2 = .ok (.iload_n 2, 1) := by decide +kernel
theorem d_Names_findOrSee_3 : decode b_Names_findOrSee 3 = .ok (.aload_n 0, 1) := by decide +kernel
theorem d_Names_findOrSee_4 : decode b_Names_findOrSee 4 = .ok (.getfield 19, 3) := by decide +kernel
theorem d_Names_findOrSee_7 : decode b_Names_findOrSee 7 = .ok (.if_icmp .ge 21, 3) := by decide +kernel
theorem d_Names_findOrSee_10 : decode b_Names_findOrSee 10 = .ok (.aload_n 0, 1) := by decide +kernel
theorem d_Names_findOrSee_11 : decode b_Names_findOrSee 11 = .ok (.getfield 9, 3) := by decide +kernel
theorem d_Names_findOrSee_14 : decode b_Names_findOrSee 14 = .ok (.iload_n 2, 1) := by decide +kernel
theorem d_Names_findOrSee_15 : decode b_Names_findOrSee 15 = .ok (.iaload, 1) := by decide +kernel
theorem d_Names_findOrSee_16 : decode b_Names_findOrSee 16 = .ok (.iload_n 1, 1) := by decide +kernel
theorem d_Names_findOrSee_17 : decode b_Names_findOrSee 17 = .ok (.if_icmp .ne 5, 3) := by decide +kernel
theorem d_Names_findOrSee_20 : decode b_Names_findOrSee 20 = .ok (.iload_n 2, 1) := by decide +kernel
theorem d_Names_findOrSee_21 : decode b_Names_findOrSee 21 = .ok (.ireturn, 1) := by decide +kernel
theorem d_Names_findOrSee_22 : decode b_Names_findOrSee 22 = .ok (.iinc 2 1, 3) := by decide +kernel
theorem d_Names_findOrSee_25 : decode b_Names_findOrSee 25 = .ok (.goto (-23), 3) := by decide +kernel
theorem d_Names_findOrSee_28 : decode b_Names_findOrSee 28 = .ok (.aload_n 0, 1) := by decide +kernel
theorem d_Names_findOrSee_29 : decode b_Names_findOrSee 29 = .ok (.getfield 19, 3) := by decide +kernel
theorem d_Names_findOrSee_32 : decode b_Names_findOrSee 32 = .ok (.bipush 12, 2) := by decide +kernel
theorem d_Names_findOrSee_34 : decode b_Names_findOrSee 34 = .ok (.if_icmp .ne 10, 3) := by decide +kernel
theorem d_Names_findOrSee_37 : decode b_Names_findOrSee 37 = .ok (.aload_n 0, 1) := by decide +kernel
theorem d_Names_findOrSee_38 : decode b_Names_findOrSee 38 = .ok (.iconst 1, 1) := by decide +kernel
theorem d_Names_findOrSee_39 : decode b_Names_findOrSee 39 = .ok (.putfield 22, 3) := by decide +kernel
theorem d_Names_findOrSee_42 : decode b_Names_findOrSee 42 = .ok (.iconst 0, 1) := by decide +kernel
theorem d_Names_findOrSee_43 : decode b_Names_findOrSee 43 = .ok (.ireturn, 1) := by decide +kernel
theorem d_Names_findOrSee_44 : decode b_Names_findOrSee 44 = .ok (.aload_n 0, 1) := by decide +kernel
theorem d_Names_findOrSee_45 : decode b_Names_findOrSee 45 = .ok (.getfield 9, 3) := by decide +kernel
theorem d_Names_findOrSee_48 : decode b_Names_findOrSee 48 = .ok (.aload_n 0, 1) := by decide +kernel
theorem d_Names_findOrSee_49 : decode b_Names_findOrSee 49 = .ok (.getfield 19, 3) := by decide +kernel
theorem d_Names_findOrSee_52 : decode b_Names_findOrSee 52 = .ok (.iload_n 1, 1) := by decide +kernel
theorem d_Names_findOrSee_53 : decode b_Names_findOrSee 53 = .ok (.iastore, 1) := by decide +kernel
theorem d_Names_findOrSee_54 : decode b_Names_findOrSee 54 = .ok (.aload_n 0, 1) := by decide +kernel
theorem d_Names_findOrSee_55 : decode b_Names_findOrSee 55 = .ok (.dup, 1) := by decide +kernel
theorem d_Names_findOrSee_56 : decode b_Names_findOrSee 56 = .ok (.getfield 19, 3) := by decide +kernel
theorem d_Names_findOrSee_59 : decode b_Names_findOrSee 59 = .ok (.iconst 1, 1) := by decide +kernel
theorem d_Names_findOrSee_60 : decode b_Names_findOrSee 60 = .ok (.iadd, 1) := by decide +kernel
theorem d_Names_findOrSee_61 : decode b_Names_findOrSee 61 = .ok (.putfield 19, 3) := by decide +kernel
theorem d_Names_findOrSee_64 : decode b_Names_findOrSee 64 = .ok (.aload_n 0, 1) := by decide +kernel
theorem d_Names_findOrSee_65 : decode b_Names_findOrSee 65 = .ok (.getfield 19, 3) := by decide +kernel
theorem d_Names_findOrSee_68 : decode b_Names_findOrSee 68 = .ok (.iconst 1, 1) := by decide +kernel
theorem d_Names_findOrSee_69 : decode b_Names_findOrSee 69 = .ok (.isub, 1) := by decide +kernel
theorem d_Names_findOrSee_70 : decode b_Names_findOrSee 70 = .ok (.ireturn, 1) := by decide +kernel
def μ_Names_findOrSee : ax_M := (b_Names_findOrSee, 3, "DotConsole$Names", (some .int), 0, 0)
theorem Y_Names_findOrSee : ax_YV μ_Names_findOrSee y_Names_findOrSee 1 := ⟨⟨ax_mem (by decide +kernel) rfl, ax_mem (by decide +kernel) rfl, by decide, by decide, by decide +kernel⟩, ax_mem (by decide +kernel) rfl, ax_mem (by decide +kernel) rfl⟩
theorem kf_Names_19 : Cond.fieldLink "DotConsole$Names" 19 "DotConsole$Names" "seen" "I" ∈ ax_T := ax_mem (by decide +kernel) rfl
theorem kf_Names_9 : Cond.fieldLink "DotConsole$Names" 9 "DotConsole$Names" "keys" "[I" ∈ ax_T := ax_mem (by decide +kernel) rfl
theorem kf_Names_22 : Cond.fieldLink "DotConsole$Names" 22 "DotConsole$Names" "tooMany" "Z" ∈ ax_T := ax_mem (by decide +kernel) rfl
def J_Names_findOrSee_2 (N : Nat) : Nat → Int32 → Int32 → St → Option (Int32 × St)
  | 0, _, _, _ => none
  | n + 1, l1, l2, σ => (if (σ.1 5) ≤ l2 then
  (if (σ.1 5) = 12 then
  ax_let (sF σ 6 1) (fun σ3 =>
  some (0, σ3))
  else (if (inB (σ.1 5) 12) = true then ax_let (sA σ 5 (σ.1 5).toNatClampNeg l1) (fun σ1 =>
  ax_let (sF σ1 5 ((σ1.1 5) + 1)) (fun σ2 =>
  some (((σ2.1 5) - 1), σ2))) else none))
  else (if (inB l2 12) = true then (if (σ.2 5 l2.toNatClampNeg) = l1 then
  some (l2, σ)
  else ax_let (l2 + 1) (fun v1 =>
  J_Names_findOrSee_2 N n l1 v1 σ)) else none))
def J_Names_findOrSee (N : Nat) (a1 : Int32) (σ : St) : Option (Int32 × St) :=
  J_Names_findOrSee_2 N N a1 0 σ
set_option maxHeartbeats 1000000 in
theorem t_Names_findOrSee_2 {N : Nat} {g : ax_G} {r9 : Int32} {s9 : St} (x : ax_X) (A : Nat → Prop) : ∀ (n : Nat) (l1 : Int32) (l2 : Int32) (σ : St), J_Names_findOrSee_2 N n l1 l2 σ = some (r9, s9) → AW x μ_Names_findOrSee g A (wC g) (ax_QI x g A (wC g) (ax_eqI r9 s9)) 2 [(0, .ref (g.2.1 7)), (1, .int l1), (2, .int l2)] [] σ := by
  intro n
  induction n with
  | zero => intro l1 l2 σ hJ; rw [J_Names_findOrSee_2] at hJ; cases hJ
  | succ n ih =>
    intro l1 l2 σ hJ
    rw [J_Names_findOrSee_2] at hJ
    refine aw_iload_n (n := 3) d_Names_findOrSee_2 rfl rfl 2 rfl ?_
    refine aw_aload_n (n := 4) d_Names_findOrSee_3 rfl rfl 0 rfl ?_
    refine gf_Names_seen (n := 7) d_Names_findOrSee_4 rfl kf_Names_19 ?_
    refine aw_icmp_ge (n := 10) (t := 28) d_Names_findOrSee_7 rfl (by decide) (fun c1 => ?_) (fun c1 => ?_)
    · rw [if_pos c1] at hJ
      refine aw_aload_n (n := 29) d_Names_findOrSee_28 rfl rfl 0 rfl ?_
      refine gf_Names_seen (n := 32) d_Names_findOrSee_29 rfl kf_Names_19 ?_
      refine aw_bipush (n := 34) (v := 12) d_Names_findOrSee_32 rfl (by decide) ?_
      refine aw_icmp_ne (n := 37) (t := 44) d_Names_findOrSee_34 rfl (by decide) (fun c2 => ?_) (fun c2 => ?_)
      · rw [if_neg c2] at hJ
        refine aw_aload_n (n := 45) d_Names_findOrSee_44 rfl rfl 0 rfl ?_
        refine gf_Names_keys (n := 48) d_Names_findOrSee_45 rfl kf_Names_9 ?_
        refine aw_aload_n (n := 49) d_Names_findOrSee_48 rfl rfl 0 rfl ?_
        refine gf_Names_seen (n := 52) d_Names_findOrSee_49 rfl kf_Names_19 ?_
        refine aw_iload_n (n := 53) d_Names_findOrSee_52 rfl rfl 1 rfl ?_
        obtain ⟨h1, hJ⟩ := ax_need hJ
        refine as_8 (n := 54) d_Names_findOrSee_53 rfl h1 ?_
        obtain ⟨σ1, eσ1, hJ⟩ := ax_letE hJ
        refine aw_let eσ1 ?_
        refine aw_aload_n (n := 55) d_Names_findOrSee_54 rfl rfl 0 rfl ?_
        refine aw_dup (n := 56) d_Names_findOrSee_55 rfl rfl ?_
        refine gf_Names_seen (n := 59) d_Names_findOrSee_56 rfl kf_Names_19 ?_
        refine aw_iconst (n := 60) (v := 1) d_Names_findOrSee_59 rfl (by decide) ?_
        refine aw_iadd (n := 61) d_Names_findOrSee_60 rfl ?_
        refine pf_Names_seen (n := 64) d_Names_findOrSee_61 rfl kf_Names_19 ?_
        obtain ⟨σ2, eσ2, hJ⟩ := ax_letE hJ
        refine aw_let eσ2 ?_
        refine aw_aload_n (n := 65) d_Names_findOrSee_64 rfl rfl 0 rfl ?_
        refine gf_Names_seen (n := 68) d_Names_findOrSee_65 rfl kf_Names_19 ?_
        refine aw_iconst (n := 69) (v := 1) d_Names_findOrSee_68 rfl (by decide) ?_
        refine aw_isub (n := 70) d_Names_findOrSee_69 rfl ?_
        exact aw_iret d_Names_findOrSee_70 rfl (ax_ret hJ)
      · rw [if_pos c2] at hJ
        refine aw_aload_n (n := 38) d_Names_findOrSee_37 rfl rfl 0 rfl ?_
        refine aw_iconst (n := 39) (v := 1) d_Names_findOrSee_38 rfl (by decide) ?_
        refine pf_Names_tooMany (n := 42) d_Names_findOrSee_39 rfl kf_Names_22 rfl rfl ?_
        obtain ⟨σ3, eσ3, hJ⟩ := ax_letE hJ
        refine aw_let eσ3 ?_
        refine aw_iconst (n := 43) (v := 0) d_Names_findOrSee_42 rfl (by decide) ?_
        exact aw_iret d_Names_findOrSee_43 rfl (ax_ret hJ)
    · rw [if_neg c1] at hJ
      refine aw_aload_n (n := 11) d_Names_findOrSee_10 rfl rfl 0 rfl ?_
      refine gf_Names_keys (n := 14) d_Names_findOrSee_11 rfl kf_Names_9 ?_
      refine aw_iload_n (n := 15) d_Names_findOrSee_14 rfl rfl 2 rfl ?_
      obtain ⟨h2, hJ⟩ := ax_need hJ
      refine al_8 (n := 16) d_Names_findOrSee_15 rfl h2 ?_
      refine aw_iload_n (n := 17) d_Names_findOrSee_16 rfl rfl 1 rfl ?_
      refine aw_icmp_ne (n := 20) (t := 22) d_Names_findOrSee_17 rfl (by decide) (fun c3 => ?_) (fun c3 => ?_)
      · rw [if_neg c3] at hJ
        obtain ⟨v1, ev1, hJ⟩ := ax_letE hJ
        refine aw_iinc (n := 25) (j := 2) (v := v1) d_Names_findOrSee_22 rfl rfl (ev1) (by decide) rfl ?_
        refine aw_goto (t := 2) d_Names_findOrSee_25 (by decide) ?_
        refine aw_sub [1, 2, 0] rfl ?_
        exact ih _ _ _ hJ
      · rw [if_pos c3] at hJ
        refine aw_iload_n (n := 21) d_Names_findOrSee_20 rfl rfl 2 rfl ?_
        exact aw_iret d_Names_findOrSee_21 rfl (ax_ret hJ)
set_option maxHeartbeats 1000000 in
theorem c_Names_findOrSee {N : Nat} {g : ax_G} {a1 : Int32} {σ : St} {r9 : Int32} {s9 : St} (hJ : J_Names_findOrSee N a1 σ = some (r9, s9)) : ax_CI μ_Names_findOrSee g y_Names_findOrSee (wC g) [.ref (g.2.1 7), .int a1] σ (ax_eqI r9 s9) := by
  refine ax_CI.of rfl rfl (Nat.le_of_ble_eq_true rfl) (fun x A => ?_)
  show AW x μ_Names_findOrSee g A (wC g) (ax_QI x g A (wC g) (ax_eqI r9 s9)) 0 [(0, .ref (g.2.1 7)), (1, .int a1)] [] σ
  rw [J_Names_findOrSee] at hJ
  refine aw_iconst (n := 1) (v := 0) d_Names_findOrSee_0 rfl (by decide) ?_
  refine aw_istore_n (n := 2) d_Names_findOrSee_1 rfl rfl (by decide) rfl ?_
  refine aw_sub [1, 2, 0] rfl ?_
  exact t_Names_findOrSee_2 x A N _ _ _ hJ
abbrev b_Names_letterAt : ByteArray := prog_4_method_5_code
def y_Names_letterAt : MethodName := ⟨"DotConsole$Names", "letterAt", "(II)I"⟩
theorem d_Names_letterAt_0 : decode b_Names_letterAt 0 = .ok (.iload_n 1, 1) := by decide +kernel
theorem d_Names_letterAt_1 : decode b_Names_letterAt 1 = .ok (.ifCond .lt 21, 3) := by decide +kernel
theorem d_Names_letterAt_4 : decode b_Names_letterAt 4 = .ok (.iload_n 1, 1) := by decide +kernel
theorem d_Names_letterAt_5 : decode b_Names_letterAt 5 = .ok (.aload_n 0, 1) := by decide +kernel
theorem d_Names_letterAt_6 : decode b_Names_letterAt 6 = .ok (.getfield 15, 3) := by decide +kernel
theorem d_Names_letterAt_9 : decode b_Names_letterAt 9 = .ok (.if_icmp .ge 13, 3) := by decide +kernel
theorem d_Names_letterAt_12 : decode b_Names_letterAt 12 = .ok (.iload_n 2, 1) := by decide +kernel
theorem d_Names_letterAt_13 : decode b_Names_letterAt 13 = .ok (.ifCond .lt 9, 3) := by decide +kernel
theorem d_Names_letterAt_16 : decode b_Names_letterAt 16 = .ok (.iload_n 2, 1) := by decide +kernel
theorem d_Names_letterAt_17 : decode b_Names_letterAt 17 = .ok (.bipush 6, 2) := by decide +kernel
theorem d_Names_letterAt_19 : decode b_Names_letterAt 19 = .ok (.if_icmp .lt 5, 3) := by decide +kernel
theorem d_Names_letterAt_22 : decode b_Names_letterAt 22 = .ok (.iconst (-1), 1) := by decide +kernel
theorem d_Names_letterAt_23 : decode b_Names_letterAt 23 = .ok (.ireturn, 1) := by decide +kernel
theorem d_Names_letterAt_24 : decode b_Names_letterAt 24 = .ok (.aload_n 0, 1) := by decide +kernel
theorem d_Names_letterAt_25 : decode b_Names_letterAt 25 = .ok (.getfield 9, 3) := by decide +kernel
theorem d_Names_letterAt_28 : decode b_Names_letterAt 28 = .ok (.iload_n 1, 1) := by decide +kernel
theorem d_Names_letterAt_29 : decode b_Names_letterAt 29 = .ok (.iaload, 1) := by decide +kernel
theorem d_Names_letterAt_30 : decode b_Names_letterAt 30 = .ok (.iconst 5, 1) := by decide +kernel
theorem d_Names_letterAt_31 : decode b_Names_letterAt 31 = .ok (.iconst 5, 1) := by decide +kernel
theorem d_Names_letterAt_32 : decode b_Names_letterAt 32 = .ok (.iload_n 2, 1) := by decide +kernel
theorem d_Names_letterAt_33 : decode b_Names_letterAt 33 = .ok (.isub, 1) := by decide +kernel
theorem d_Names_letterAt_34 : decode b_Names_letterAt 34 = .ok (.imul, 1) := by decide +kernel
theorem d_Names_letterAt_35 : decode b_Names_letterAt 35 = .ok (.ishr, 1) := by decide +kernel
theorem d_Names_letterAt_36 : decode b_Names_letterAt 36 = .ok (.bipush 31, 2) := by decide +kernel
theorem d_Names_letterAt_38 : decode b_Names_letterAt 38 = .ok (.iand, 1) := by decide +kernel
theorem d_Names_letterAt_39 : decode b_Names_letterAt 39 = .ok (.istore_n 3, 1) := by decide +kernel
theorem d_Names_letterAt_40 : decode b_Names_letterAt 40 = .ok (.iload_n 3, 1) := by decide +kernel
theorem d_Names_letterAt_41 : decode b_Names_letterAt 41 = .ok (.ifCond .ne 7, 3) := by decide +kernel
theorem d_Names_letterAt_44 : decode b_Names_letterAt 44 = .ok (.iconst (-1), 1) := by decide +kernel
theorem d_Names_letterAt_45 : decode b_Names_letterAt 45 = .ok (.goto 9, 3) := by decide +kernel
theorem d_Names_letterAt_48 : decode b_Names_letterAt 48 = .ok (.iload_n 3, 1) := by decide +kernel
theorem d_Names_letterAt_49 : decode b_Names_letterAt 49 = .ok (.bipush 97, 2) := by decide +kernel
theorem d_Names_letterAt_51 : decode b_Names_letterAt 51 = .ok (.iadd, 1) := by decide +kernel
theorem d_Names_letterAt_52 : decode b_Names_letterAt 52 = .ok (.iconst 1, 1) := by decide +kernel
theorem d_Names_letterAt_53 : decode b_Names_letterAt 53 = .ok (.isub, 1) := by decide +kernel
theorem d_Names_letterAt_54 : decode b_Names_letterAt 54 = .ok (.ireturn, 1) := by decide +kernel
def μ_Names_letterAt : ax_M := (b_Names_letterAt, 4, "DotConsole$Names", (some .int), 0, 0)
theorem Y_Names_letterAt : ax_YV μ_Names_letterAt y_Names_letterAt 2 := ⟨⟨ax_mem (by decide +kernel) rfl, ax_mem (by decide +kernel) rfl, by decide, by decide, by decide +kernel⟩, ax_mem (by decide +kernel) rfl, ax_mem (by decide +kernel) rfl⟩
theorem kf_Names_15 : Cond.fieldLink "DotConsole$Names" 15 "DotConsole$Names" "kept" "I" ∈ ax_T := ax_mem (by decide +kernel) rfl
def J_Names_letterAt (N : Nat) (a1 : Int32) (a2 : Int32) (σ : St) : Option (Int32 × St) :=
  (if a1 < 0 then
  some ((-1), σ)
  else (if (σ.1 4) ≤ a1 then
  some ((-1), σ)
  else (if a2 < 0 then
  some ((-1), σ)
  else (if a2 < 6 then
  (if (inB a1 12) = true then ax_let (((σ.2 5 a1.toNatClampNeg) >>> ((5 * (5 - a2)) &&& 31)) &&& 31) (fun v1 =>
  (if v1 = 0 then
  some ((-1), σ)
  else some (((v1 + 97) - 1), σ))) else none)
  else some ((-1), σ)))))
set_option maxHeartbeats 1000000 in
theorem c_Names_letterAt {N : Nat} {g : ax_G} {a1 : Int32} {a2 : Int32} {σ : St} {r9 : Int32} {s9 : St} (hJ : J_Names_letterAt N a1 a2 σ = some (r9, s9)) : ax_CI μ_Names_letterAt g y_Names_letterAt (wC g) [.ref (g.2.1 7), .int a1, .int a2] σ (ax_eqI r9 s9) := by
  refine ax_CI.of rfl rfl (Nat.le_of_ble_eq_true rfl) (fun x A => ?_)
  show AW x μ_Names_letterAt g A (wC g) (ax_QI x g A (wC g) (ax_eqI r9 s9)) 0 [(0, .ref (g.2.1 7)), (1, .int a1), (2, .int a2)] [] σ
  rw [J_Names_letterAt] at hJ
  refine aw_iload_n (n := 1) d_Names_letterAt_0 rfl rfl 1 rfl ?_
  refine aw_if_lt (n := 4) (t := 22) d_Names_letterAt_1 rfl (by decide) (fun c1 => ?_) (fun c1 => ?_)
  · rw [if_pos c1] at hJ
    refine aw_iconst (n := 23) (v := -1) d_Names_letterAt_22 rfl (by decide) ?_
    exact aw_iret d_Names_letterAt_23 rfl (ax_ret hJ)
  · rw [if_neg c1] at hJ
    refine aw_iload_n (n := 5) d_Names_letterAt_4 rfl rfl 1 rfl ?_
    refine aw_aload_n (n := 6) d_Names_letterAt_5 rfl rfl 0 rfl ?_
    refine gf_Names_kept (n := 9) d_Names_letterAt_6 rfl kf_Names_15 ?_
    refine aw_icmp_ge (n := 12) (t := 22) d_Names_letterAt_9 rfl (by decide) (fun c2 => ?_) (fun c2 => ?_)
    · rw [if_pos c2] at hJ
      refine aw_iconst (n := 23) (v := -1) d_Names_letterAt_22 rfl (by decide) ?_
      exact aw_iret d_Names_letterAt_23 rfl (ax_ret hJ)
    · rw [if_neg c2] at hJ
      refine aw_iload_n (n := 13) d_Names_letterAt_12 rfl rfl 2 rfl ?_
      refine aw_if_lt (n := 16) (t := 22) d_Names_letterAt_13 rfl (by decide) (fun c3 => ?_) (fun c3 => ?_)
      · rw [if_pos c3] at hJ
        refine aw_iconst (n := 23) (v := -1) d_Names_letterAt_22 rfl (by decide) ?_
        exact aw_iret d_Names_letterAt_23 rfl (ax_ret hJ)
      · rw [if_neg c3] at hJ
        refine aw_iload_n (n := 17) d_Names_letterAt_16 rfl rfl 2 rfl ?_
        refine aw_bipush (n := 19) (v := 6) d_Names_letterAt_17 rfl (by decide) ?_
        refine aw_icmp_lt (n := 22) (t := 24) d_Names_letterAt_19 rfl (by decide) (fun c4 => ?_) (fun c4 => ?_)
        · rw [if_pos c4] at hJ
          refine aw_aload_n (n := 25) d_Names_letterAt_24 rfl rfl 0 rfl ?_
          refine gf_Names_keys (n := 28) d_Names_letterAt_25 rfl kf_Names_9 ?_
          refine aw_iload_n (n := 29) d_Names_letterAt_28 rfl rfl 1 rfl ?_
          obtain ⟨h1, hJ⟩ := ax_need hJ
          refine al_8 (n := 30) d_Names_letterAt_29 rfl h1 ?_
          refine aw_iconst (n := 31) (v := 5) d_Names_letterAt_30 rfl (by decide) ?_
          refine aw_iconst (n := 32) (v := 5) d_Names_letterAt_31 rfl (by decide) ?_
          refine aw_iload_n (n := 33) d_Names_letterAt_32 rfl rfl 2 rfl ?_
          refine aw_isub (n := 34) d_Names_letterAt_33 rfl ?_
          refine aw_imul (n := 35) d_Names_letterAt_34 rfl ?_
          refine aw_ishr (n := 36) d_Names_letterAt_35 rfl ?_
          refine aw_bipush (n := 38) (v := 31) d_Names_letterAt_36 rfl (by decide) ?_
          refine aw_iand (n := 39) d_Names_letterAt_38 rfl ?_
          obtain ⟨v1, ev1, hJ⟩ := ax_letE hJ
          refine aw_top ev1 ?_
          refine aw_istore_n (n := 40) d_Names_letterAt_39 rfl rfl (by decide) rfl ?_
          refine aw_iload_n (n := 41) d_Names_letterAt_40 rfl rfl 0 rfl ?_
          refine aw_if_ne (n := 44) (t := 48) d_Names_letterAt_41 rfl (by decide) (fun c5 => ?_) (fun c5 => ?_)
          · rw [if_neg c5] at hJ
            refine aw_iload_n (n := 49) d_Names_letterAt_48 rfl rfl 0 rfl ?_
            refine aw_bipush (n := 51) (v := 97) d_Names_letterAt_49 rfl (by decide) ?_
            refine aw_iadd (n := 52) d_Names_letterAt_51 rfl ?_
            refine aw_iconst (n := 53) (v := 1) d_Names_letterAt_52 rfl (by decide) ?_
            refine aw_isub (n := 54) d_Names_letterAt_53 rfl ?_
            exact aw_iret d_Names_letterAt_54 rfl (ax_ret hJ)
          · rw [if_pos c5] at hJ
            refine aw_iconst (n := 45) (v := -1) d_Names_letterAt_44 rfl (by decide) ?_
            refine aw_goto (t := 54) d_Names_letterAt_45 (by decide) ?_
            exact aw_iret d_Names_letterAt_54 rfl (ax_ret hJ)
        · rw [if_neg c4] at hJ
          refine aw_iconst (n := 23) (v := -1) d_Names_letterAt_22 rfl (by decide) ?_
          exact aw_iret d_Names_letterAt_23 rfl (ax_ret hJ)
