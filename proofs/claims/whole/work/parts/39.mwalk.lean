/-! WALKED: Mod_restart, Mod_dot, Mod_value, Mod_name, Mod_nodes, Mod_count. Printed by wip/whole/build.py. -/
abbrev b_Mod_restart : ByteArray := prog_10_method_33_code
def y_Mod_restart : MethodName := ⟨"DotConsoleModel", "restart", "()I"⟩
theorem d_Mod_restart_0 : decode b_Mod_restart 0 = .ok (.iconst 0, 1) := by decide +kernel
theorem d_Mod_restart_1 : decode b_Mod_restart 1 = .ok (.istore_n 1, 1) := by decide +kernel
theorem d_Mod_restart_2 : decode b_Mod_restart 2 = .ok (.iload_n 1, 1) := by decide +kernel
theorem d_Mod_restart_3 : decode b_Mod_restart 3 = .ok (.bipush 64, 2) := by decide +kernel
theorem d_Mod_restart_5 : decode b_Mod_restart 5 = .ok (.if_icmp .ge 16, 3) := by decide +kernel
theorem d_Mod_restart_8 : decode b_Mod_restart 8 = .ok (.aload_n 0, 1) := by decide +kernel
theorem d_Mod_restart_9 : decode b_Mod_restart 9 = .ok (.getfield 36, 3) := by decide +kernel
theorem d_Mod_restart_12 : decode b_Mod_restart 12 = .ok (.iload_n 1, 1) := by decide +kernel
theorem d_Mod_restart_13 : decode b_Mod_restart 13 = .ok (.iconst 0, 1) := by decide +kernel
theorem d_Mod_restart_14 : decode b_Mod_restart 14 = .ok (.iastore, 1) := by decide +kernel
theorem d_Mod_restart_15 : decode b_Mod_restart 15 = .ok (.iinc 1 1, 3) := by decide +kernel
theorem d_Mod_restart_18 : decode b_Mod_restart 18 = .ok (.goto (-16), 3) := by decide +kernel
theorem d_Mod_restart_21 : decode b_Mod_restart 21 = .ok (.iconst 0, 1) := by decide +kernel
theorem d_Mod_restart_22 : decode b_Mod_restart 22 = .ok (.istore_n 1, 1) := by decide +kernel
theorem d_Mod_restart_23 : decode b_Mod_restart 23 = .ok (.iload_n 1, 1) := by decide +kernel
theorem d_Mod_restart_24 : decode b_Mod_restart 24 = .ok (.bipush 32, 2) := by decide +kernel
theorem d_Mod_restart_26 : decode b_Mod_restart 26 = .ok (.if_icmp .ge 16, 3) := by decide +kernel
theorem d_Mod_restart_29 : decode b_Mod_restart 29 = .ok (.aload_n 0, 1) := by decide +kernel
theorem d_Mod_restart_30 : decode b_Mod_restart 30 = .ok (.getfield 42, 3) := by decide +kernel
theorem d_Mod_restart_33 : decode b_Mod_restart 33 = .ok (.iload_n 1, 1) := by decide +kernel
theorem d_Mod_restart_34 : decode b_Mod_restart 34 = .ok (.iconst 0, 1) := by decide +kernel
theorem d_Mod_restart_35 : decode b_Mod_restart 35 = .ok (.iastore, 1) := by decide +kernel
theorem d_Mod_restart_36 : decode b_Mod_restart 36 = .ok (.iinc 1 1, 3) := by decide +kernel
theorem d_Mod_restart_39 : decode b_Mod_restart 39 = .ok (.goto (-16), 3) := by decide +kernel
theorem d_Mod_restart_42 : decode b_Mod_restart 42 = .ok (.iconst 0, 1) := by decide +kernel
theorem d_Mod_restart_43 : decode b_Mod_restart 43 = .ok (.istore_n 1, 1) := by decide +kernel
theorem d_Mod_restart_44 : decode b_Mod_restart 44 = .ok (.iload_n 1, 1) := by decide +kernel
theorem d_Mod_restart_45 : decode b_Mod_restart 45 = .ok (.sipush 256, 3) := by decide +kernel
theorem d_Mod_restart_48 : decode b_Mod_restart 48 = .ok (.if_icmp .ge 16, 3) := by decide +kernel
theorem d_Mod_restart_51 : decode b_Mod_restart 51 = .ok (.aload_n 0, 1) := by decide +kernel
theorem d_Mod_restart_52 : decode b_Mod_restart 52 = .ok (.getfield 45, 3) := by decide +kernel
theorem d_Mod_restart_55 : decode b_Mod_restart 55 = .ok (.iload_n 1, 1) := by decide +kernel
theorem d_Mod_restart_56 : decode b_Mod_restart 56 = .ok (.iconst 0, 1) := by decide +kernel
theorem d_Mod_restart_57 : decode b_Mod_restart 57 = .ok (.iastore, 1) := by decide +kernel
theorem d_Mod_restart_58 : decode b_Mod_restart 58 = .ok (.iinc 1 1, 3) := by decide +kernel
theorem d_Mod_restart_61 : decode b_Mod_restart 61 = .ok (.goto (-17), 3) := by decide +kernel
theorem d_Mod_restart_64 : decode b_Mod_restart 64 = .ok (.iconst 0, 1) := by decide +kernel
theorem d_Mod_restart_65 : decode b_Mod_restart 65 = .ok (.istore_n 1, 1) := by decide +kernel
theorem d_Mod_restart_66 : decode b_Mod_restart 66 = .ok (.iload_n 1, 1) := by decide +kernel
theorem d_Mod_restart_67 : decode b_Mod_restart 67 = .ok (.bipush 6, 2) := by decide +kernel
theorem d_Mod_restart_69 : decode b_Mod_restart 69 = .ok (.if_icmp .ge 16, 3) := by decide +kernel
theorem d_Mod_restart_72 : decode b_Mod_restart 72 = .ok (.aload_n 0, 1) := by decide +kernel
theorem d_Mod_restart_73 : decode b_Mod_restart 73 = .ok (.getfield 48, 3) := by decide +kernel
theorem d_Mod_restart_76 : decode b_Mod_restart 76 = .ok (.iload_n 1, 1) := by decide +kernel
theorem d_Mod_restart_77 : decode b_Mod_restart 77 = .ok (.iconst 0, 1) := by decide +kernel
theorem d_Mod_restart_78 : decode b_Mod_restart 78 = .ok (.iastore, 1) := by decide +kernel
theorem d_Mod_restart_79 : decode b_Mod_restart 79 = .ok (.iinc 1 1, 3) := by decide +kernel
theorem d_Mod_restart_82 : decode b_Mod_restart 82 = .ok (.goto (-16), 3) := by decide +kernel
theorem d_Mod_restart_85 : decode b_Mod_restart 85 = .ok (.aload_n 0, 1) := by decide +kernel
theorem d_Mod_restart_86 : decode b_Mod_restart 86 = .ok (.iconst 1, 1) := by decide +kernel
theorem d_Mod_restart_87 : decode b_Mod_restart 87 = .ok (.putfield 51, 3) := by decide +kernel
theorem d_Mod_restart_90 : decode b_Mod_restart 90 = .ok (.aload_n 0, 1) := by decide +kernel
theorem d_Mod_restart_91 : decode b_Mod_restart 91 = .ok (.iconst 0, 1) := by decide +kernel
theorem d_Mod_restart_92 : decode b_Mod_restart 92 = .ok (.putfield 180, 3) := by decide +kernel
theorem d_Mod_restart_95 : decode b_Mod_restart 95 = .ok (.aload_n 0, 1) := by decide +kernel
theorem d_Mod_restart_96 : decode b_Mod_restart 96 = .ok (.iconst 0, 1) := by decide +kernel
theorem d_Mod_restart_97 : decode b_Mod_restart 97 = .ok (.putfield 183, 3) := by decide +kernel
theorem d_Mod_restart_100 : decode b_Mod_restart 100 = .ok (.iconst 0, 1) := by decide +kernel
theorem d_Mod_restart_101 : decode b_Mod_restart 101 = .ok (.ireturn, 1) := by decide +kernel
def μ_Mod_restart : ax_M := (b_Mod_restart, 2, "DotConsoleModel", (some .int), 0, 0, 0, 0)
theorem Y_Mod_restart : ax_YV μ_Mod_restart y_Mod_restart 0 := ⟨⟨ax_mem (by decide +kernel) rfl, ax_mem (by decide +kernel) rfl, by decide, by decide, by decide +kernel⟩, ax_mem (by decide +kernel) rfl, ax_mem (by decide +kernel) rfl⟩
def J_Mod_restart_66 (N : Nat) : Nat → Int32 → St → Option (Int32 × St)
  | 0, _, _ => none
  | n + 1, l1, σ => (if 6 ≤ l1 then
  ax_let (sF σ 5 1) (fun σ4 =>
  ax_let (sF σ4 6 0) (fun σ5 =>
  ax_let (sF σ5 7 0) (fun σ6 =>
  some (0, σ6))))
  else (if (inB l1 6) = true then ax_let (sA σ 11 l1.toNatClampNeg 0) (fun σ7 =>
  ax_let ((l1 + 1) : Int32) (fun v4 =>
  J_Mod_restart_66 N n v4 σ7)) else none))
def J_Mod_restart_44 (N : Nat) : Nat → Int32 → St → Option (Int32 × St)
  | 0, _, _ => none
  | n + 1, l1, σ => (if 256 ≤ l1 then
  J_Mod_restart_66 N N 0 σ
  else (if (inB l1 256) = true then ax_let (sA σ 10 l1.toNatClampNeg 0) (fun σ3 =>
  ax_let ((l1 + 1) : Int32) (fun v3 =>
  J_Mod_restart_44 N n v3 σ3)) else none))
def J_Mod_restart_23 (N : Nat) : Nat → Int32 → St → Option (Int32 × St)
  | 0, _, _ => none
  | n + 1, l1, σ => (if 32 ≤ l1 then
  J_Mod_restart_44 N N 0 σ
  else (if (inB l1 32) = true then ax_let (sA σ 9 l1.toNatClampNeg 0) (fun σ2 =>
  ax_let ((l1 + 1) : Int32) (fun v2 =>
  J_Mod_restart_23 N n v2 σ2)) else none))
def J_Mod_restart_2 (N : Nat) : Nat → Int32 → St → Option (Int32 × St)
  | 0, _, _ => none
  | n + 1, l1, σ => (if 64 ≤ l1 then
  J_Mod_restart_23 N N 0 σ
  else (if (inB l1 64) = true then ax_let (sA σ 7 l1.toNatClampNeg 0) (fun σ1 =>
  ax_let ((l1 + 1) : Int32) (fun v1 =>
  J_Mod_restart_2 N n v1 σ1)) else none))
def J_Mod_restart (N : Nat) (σ : St) : Option (Int32 × St) :=
  J_Mod_restart_2 N N 0 σ
set_option maxHeartbeats 1000000 in
theorem t_Mod_restart_66 {N : Nat} {g : ax_G} {r9 : Int32} {s9 : St} (x : ax_X) (A : Nat → Prop) : ∀ (n : Nat) (l1 : Int32) (σ : St), J_Mod_restart_66 N n l1 σ = some (r9, s9) → AW x μ_Mod_restart g A (wM g) (0, 0) (ax_QI x μ_Mod_restart g A (wM g) (ax_eqI r9 s9)) 66 [(0, .ref (g.2.1 32)), (1, .int l1)] [] σ := by
  intro n
  induction n with
  | zero => intro l1 σ hJ; rw [J_Mod_restart_66] at hJ; cases hJ
  | succ n ih =>
    intro l1 σ hJ
    rw [J_Mod_restart_66] at hJ
    refine aw_iload_n (n := 67) d_Mod_restart_66 rfl rfl 1 rfl ?_
    refine aw_bipush (n := 69) (v := 6) d_Mod_restart_67 rfl (by decide) ?_
    refine aw_icmp_ge (n := 72) (t := 85) d_Mod_restart_69 rfl (by decide) (fun c4 => ?_) (fun c4 => ?_)
    · rw [if_pos c4] at hJ
      refine aw_aload_n (n := 86) d_Mod_restart_85 rfl rfl 0 rfl ?_
      refine aw_iconst (n := 87) (v := 1) d_Mod_restart_86 rfl (by decide) ?_
      refine pf_Mod_seed (n := 90) d_Mod_restart_87 rfl kf_Mod_51 ?_
      obtain ⟨σ4, eσ4, hJ⟩ := ax_letE hJ
      refine aw_let eσ4 ?_
      refine aw_aload_n (n := 91) d_Mod_restart_90 rfl rfl 0 rfl ?_
      refine aw_iconst (n := 92) (v := 0) d_Mod_restart_91 rfl (by decide) ?_
      refine pf_Mod_frames (n := 95) d_Mod_restart_92 rfl kf_Mod_180 ?_
      obtain ⟨σ5, eσ5, hJ⟩ := ax_letE hJ
      refine aw_let eσ5 ?_
      refine aw_aload_n (n := 96) d_Mod_restart_95 rfl rfl 0 rfl ?_
      refine aw_iconst (n := 97) (v := 0) d_Mod_restart_96 rfl (by decide) ?_
      refine pf_Mod_steps (n := 100) d_Mod_restart_97 rfl kf_Mod_183 ?_
      obtain ⟨σ6, eσ6, hJ⟩ := ax_letE hJ
      refine aw_let eσ6 ?_
      refine aw_iconst (n := 101) (v := 0) d_Mod_restart_100 rfl (by decide) ?_
      exact aw_iret d_Mod_restart_101 rfl (ax_ret hJ)
    · rw [if_neg c4] at hJ
      refine aw_aload_n (n := 73) d_Mod_restart_72 rfl rfl 0 rfl ?_
      refine gf_Mod_held (n := 76) d_Mod_restart_73 rfl kf_Mod_48 ?_
      refine aw_iload_n (n := 77) d_Mod_restart_76 rfl rfl 1 rfl ?_
      refine aw_iconst (n := 78) (v := 0) d_Mod_restart_77 rfl (by decide) ?_
      obtain ⟨h4, hJ⟩ := ax_need hJ
      refine as_44 (n := 79) d_Mod_restart_78 rfl h4 ?_
      obtain ⟨σ7, eσ7, hJ⟩ := ax_letE hJ
      refine aw_let eσ7 ?_
      obtain ⟨v4, ev4, hJ⟩ := ax_letE hJ
      refine aw_iinc (n := 82) (j := 1) (v := v4) d_Mod_restart_79 rfl rfl (ev4) (by decide) rfl ?_
      refine aw_goto (t := 66) d_Mod_restart_82 (by decide) ?_
      refine aw_sub [1, 0] rfl ?_
      exact ih _ _ hJ
set_option maxHeartbeats 1000000 in
theorem t_Mod_restart_44 {N : Nat} {g : ax_G} {r9 : Int32} {s9 : St} (x : ax_X) (A : Nat → Prop) : ∀ (n : Nat) (l1 : Int32) (σ : St), J_Mod_restart_44 N n l1 σ = some (r9, s9) → AW x μ_Mod_restart g A (wM g) (0, 0) (ax_QI x μ_Mod_restart g A (wM g) (ax_eqI r9 s9)) 44 [(0, .ref (g.2.1 32)), (1, .int l1)] [] σ := by
  intro n
  induction n with
  | zero => intro l1 σ hJ; rw [J_Mod_restart_44] at hJ; cases hJ
  | succ n ih =>
    intro l1 σ hJ
    rw [J_Mod_restart_44] at hJ
    refine aw_iload_n (n := 45) d_Mod_restart_44 rfl rfl 1 rfl ?_
    refine aw_sipush (n := 48) (v := 256) d_Mod_restart_45 rfl (by decide) ?_
    refine aw_icmp_ge (n := 51) (t := 64) d_Mod_restart_48 rfl (by decide) (fun c3 => ?_) (fun c3 => ?_)
    · rw [if_pos c3] at hJ
      refine aw_iconst (n := 65) (v := 0) d_Mod_restart_64 rfl (by decide) ?_
      refine aw_istore_n (n := 66) d_Mod_restart_65 rfl rfl (by decide) rfl ?_
      refine aw_sub [1, 0] rfl ?_
      exact t_Mod_restart_66 x A N _ _ hJ
    · rw [if_neg c3] at hJ
      refine aw_aload_n (n := 52) d_Mod_restart_51 rfl rfl 0 rfl ?_
      refine gf_Mod_dots (n := 55) d_Mod_restart_52 rfl kf_Mod_45 ?_
      refine aw_iload_n (n := 56) d_Mod_restart_55 rfl rfl 1 rfl ?_
      refine aw_iconst (n := 57) (v := 0) d_Mod_restart_56 rfl (by decide) ?_
      obtain ⟨h3, hJ⟩ := ax_need hJ
      refine as_43 (n := 58) d_Mod_restart_57 rfl h3 ?_
      obtain ⟨σ3, eσ3, hJ⟩ := ax_letE hJ
      refine aw_let eσ3 ?_
      obtain ⟨v3, ev3, hJ⟩ := ax_letE hJ
      refine aw_iinc (n := 61) (j := 1) (v := v3) d_Mod_restart_58 rfl rfl (ev3) (by decide) rfl ?_
      refine aw_goto (t := 44) d_Mod_restart_61 (by decide) ?_
      refine aw_sub [1, 0] rfl ?_
      exact ih _ _ hJ
set_option maxHeartbeats 1000000 in
theorem t_Mod_restart_23 {N : Nat} {g : ax_G} {r9 : Int32} {s9 : St} (x : ax_X) (A : Nat → Prop) : ∀ (n : Nat) (l1 : Int32) (σ : St), J_Mod_restart_23 N n l1 σ = some (r9, s9) → AW x μ_Mod_restart g A (wM g) (0, 0) (ax_QI x μ_Mod_restart g A (wM g) (ax_eqI r9 s9)) 23 [(0, .ref (g.2.1 32)), (1, .int l1)] [] σ := by
  intro n
  induction n with
  | zero => intro l1 σ hJ; rw [J_Mod_restart_23] at hJ; cases hJ
  | succ n ih =>
    intro l1 σ hJ
    rw [J_Mod_restart_23] at hJ
    refine aw_iload_n (n := 24) d_Mod_restart_23 rfl rfl 1 rfl ?_
    refine aw_bipush (n := 26) (v := 32) d_Mod_restart_24 rfl (by decide) ?_
    refine aw_icmp_ge (n := 29) (t := 42) d_Mod_restart_26 rfl (by decide) (fun c2 => ?_) (fun c2 => ?_)
    · rw [if_pos c2] at hJ
      refine aw_iconst (n := 43) (v := 0) d_Mod_restart_42 rfl (by decide) ?_
      refine aw_istore_n (n := 44) d_Mod_restart_43 rfl rfl (by decide) rfl ?_
      refine aw_sub [1, 0] rfl ?_
      exact t_Mod_restart_44 x A N _ _ hJ
    · rw [if_neg c2] at hJ
      refine aw_aload_n (n := 30) d_Mod_restart_29 rfl rfl 0 rfl ?_
      refine gf_Mod_cells (n := 33) d_Mod_restart_30 rfl kf_Mod_42 ?_
      refine aw_iload_n (n := 34) d_Mod_restart_33 rfl rfl 1 rfl ?_
      refine aw_iconst (n := 35) (v := 0) d_Mod_restart_34 rfl (by decide) ?_
      obtain ⟨h2, hJ⟩ := ax_need hJ
      refine as_42 (n := 36) d_Mod_restart_35 rfl h2 ?_
      obtain ⟨σ2, eσ2, hJ⟩ := ax_letE hJ
      refine aw_let eσ2 ?_
      obtain ⟨v2, ev2, hJ⟩ := ax_letE hJ
      refine aw_iinc (n := 39) (j := 1) (v := v2) d_Mod_restart_36 rfl rfl (ev2) (by decide) rfl ?_
      refine aw_goto (t := 23) d_Mod_restart_39 (by decide) ?_
      refine aw_sub [1, 0] rfl ?_
      exact ih _ _ hJ
set_option maxHeartbeats 1000000 in
theorem t_Mod_restart_2 {N : Nat} {g : ax_G} {r9 : Int32} {s9 : St} (x : ax_X) (A : Nat → Prop) : ∀ (n : Nat) (l1 : Int32) (σ : St), J_Mod_restart_2 N n l1 σ = some (r9, s9) → AW x μ_Mod_restart g A (wM g) (0, 0) (ax_QI x μ_Mod_restart g A (wM g) (ax_eqI r9 s9)) 2 [(0, .ref (g.2.1 32)), (1, .int l1)] [] σ := by
  intro n
  induction n with
  | zero => intro l1 σ hJ; rw [J_Mod_restart_2] at hJ; cases hJ
  | succ n ih =>
    intro l1 σ hJ
    rw [J_Mod_restart_2] at hJ
    refine aw_iload_n (n := 3) d_Mod_restart_2 rfl rfl 1 rfl ?_
    refine aw_bipush (n := 5) (v := 64) d_Mod_restart_3 rfl (by decide) ?_
    refine aw_icmp_ge (n := 8) (t := 21) d_Mod_restart_5 rfl (by decide) (fun c1 => ?_) (fun c1 => ?_)
    · rw [if_pos c1] at hJ
      refine aw_iconst (n := 22) (v := 0) d_Mod_restart_21 rfl (by decide) ?_
      refine aw_istore_n (n := 23) d_Mod_restart_22 rfl rfl (by decide) rfl ?_
      refine aw_sub [1, 0] rfl ?_
      exact t_Mod_restart_23 x A N _ _ hJ
    · rw [if_neg c1] at hJ
      refine aw_aload_n (n := 9) d_Mod_restart_8 rfl rfl 0 rfl ?_
      refine gf_Mod_values (n := 12) d_Mod_restart_9 rfl kf_Mod_36 ?_
      refine aw_iload_n (n := 13) d_Mod_restart_12 rfl rfl 1 rfl ?_
      refine aw_iconst (n := 14) (v := 0) d_Mod_restart_13 rfl (by decide) ?_
      obtain ⟨h1, hJ⟩ := ax_need hJ
      refine as_40 (n := 15) d_Mod_restart_14 rfl h1 ?_
      obtain ⟨σ1, eσ1, hJ⟩ := ax_letE hJ
      refine aw_let eσ1 ?_
      obtain ⟨v1, ev1, hJ⟩ := ax_letE hJ
      refine aw_iinc (n := 18) (j := 1) (v := v1) d_Mod_restart_15 rfl rfl (ev1) (by decide) rfl ?_
      refine aw_goto (t := 2) d_Mod_restart_18 (by decide) ?_
      refine aw_sub [1, 0] rfl ?_
      exact ih _ _ hJ
set_option maxHeartbeats 1000000 in
theorem c_Mod_restart {N : Nat} {g : ax_G} {σ : St} {r9 : Int32} {s9 : St} (hJ : J_Mod_restart N σ = some (r9, s9)) : ax_CI μ_Mod_restart g y_Mod_restart (wM g) [.ref (g.2.1 32)] σ (ax_eqI r9 s9) := by
  refine ax_CI.of (plainFor_of_name rfl) rfl (Nat.le_of_ble_eq_true rfl) (fun x A _ => ?_)
  show AW x μ_Mod_restart g A (wM g) (0, 0) (ax_QI x μ_Mod_restart g A (wM g) (ax_eqI r9 s9)) 0 [(0, .ref (g.2.1 32))] [] σ
  rw [J_Mod_restart] at hJ
  refine aw_iconst (n := 1) (v := 0) d_Mod_restart_0 rfl (by decide) ?_
  refine aw_istore_n (n := 2) d_Mod_restart_1 rfl rfl (by decide) rfl ?_
  refine aw_sub [1, 0] rfl ?_
  exact t_Mod_restart_2 x A N _ _ hJ
abbrev b_Mod_dot : ByteArray := prog_10_method_34_code
def y_Mod_dot : MethodName := ⟨"DotConsoleModel", "dot", "(II)I"⟩
theorem d_Mod_dot_0 : decode b_Mod_dot 0 = .ok (.iload_n 1, 1) := by decide +kernel
theorem d_Mod_dot_1 : decode b_Mod_dot 1 = .ok (.iload_n 2, 1) := by decide +kernel
theorem d_Mod_dot_2 : decode b_Mod_dot 2 = .ok (.invokestatic 175, 3) := by decide +kernel
theorem d_Mod_dot_5 : decode b_Mod_dot 5 = .ok (.ifCond .eq 17, 3) := by decide +kernel
theorem d_Mod_dot_8 : decode b_Mod_dot 8 = .ok (.aload_n 0, 1) := by decide +kernel
theorem d_Mod_dot_9 : decode b_Mod_dot 9 = .ok (.getfield 45, 3) := by decide +kernel
theorem d_Mod_dot_12 : decode b_Mod_dot 12 = .ok (.bipush 16, 2) := by decide +kernel
theorem d_Mod_dot_14 : decode b_Mod_dot 14 = .ok (.iload_n 2, 1) := by decide +kernel
theorem d_Mod_dot_15 : decode b_Mod_dot 15 = .ok (.imul, 1) := by decide +kernel
theorem d_Mod_dot_16 : decode b_Mod_dot 16 = .ok (.iload_n 1, 1) := by decide +kernel
theorem d_Mod_dot_17 : decode b_Mod_dot 17 = .ok (.iadd, 1) := by decide +kernel
theorem d_Mod_dot_18 : decode b_Mod_dot 18 = .ok (.iaload, 1) := by decide +kernel
theorem d_Mod_dot_19 : decode b_Mod_dot 19 = .ok (.goto 4, 3) := by decide +kernel
theorem d_Mod_dot_22 : decode b_Mod_dot 22 = .ok (.iconst (-1), 1) := by decide +kernel
theorem d_Mod_dot_23 : decode b_Mod_dot 23 = .ok (.ireturn, 1) := by decide +kernel
def μ_Mod_dot : ax_M := (b_Mod_dot, 3, "DotConsoleModel", (some .int), 1, 21, 0, 0)
theorem Y_Mod_dot : ax_YV μ_Mod_dot y_Mod_dot 2 := ⟨⟨ax_mem (by decide +kernel) rfl, ax_mem (by decide +kernel) rfl, by decide, by decide, by decide +kernel⟩, ax_mem (by decide +kernel) rfl, ax_mem (by decide +kernel) rfl⟩
def J_Mod_dot (N : Nat) (a1 : Int32) (a2 : Int32) (σ : St) : Option (Int32 × St) :=
  ax_bind (J_Mod_seen N a1 a2 σ) (fun r1 σ1 =>
  (if r1 = 0 then
  some ((-1), σ1)
  else (if (inB ((16 * a2) + a1) 256) = true then some ((σ1.2 10 ((16 * a2) + a1).toNatClampNeg), σ1) else none)))
set_option maxHeartbeats 1000000 in
theorem c_Mod_dot {N : Nat} {g : ax_G} {a1 : Int32} {a2 : Int32} {σ : St} {r9 : Int32} {s9 : St} (hJ : J_Mod_dot N a1 a2 σ = some (r9, s9)) : ax_CI μ_Mod_dot g y_Mod_dot (wM g) [.ref (g.2.1 32), .int a1, .int a2] σ (ax_eqI r9 s9) := by
  refine ax_CI.of (plainFor_of_name rfl) rfl (Nat.le_of_ble_eq_true rfl) (fun x A _ => ?_)
  show AW x μ_Mod_dot g A (wM g) (0, 0) (ax_QI x μ_Mod_dot g A (wM g) (ax_eqI r9 s9)) 0 [(0, .ref (g.2.1 32)), (1, .int a1), (2, .int a2)] [] σ
  rw [J_Mod_dot] at hJ
  refine aw_iload_n (n := 1) d_Mod_dot_0 rfl rfl 1 rfl ?_
  refine aw_iload_n (n := 2) d_Mod_dot_1 rfl rfl 2 rfl ?_
  obtain ⟨r1, σ1, hc1, hJ⟩ := ax_bindE hJ
  refine aw_callSi (n := 5) (c_Mod_seen hc1) Y_Mod_seen km_Mod_175 (by decide) (by decide) rfl rfl (Nat.le_of_ble_eq_true rfl) d_Mod_dot_2 rfl (fun r9 s9 hp => ?_)
  obtain ⟨rfl, rfl, hb1⟩ := hp
  refine aw_if_eq (n := 8) (t := 22) d_Mod_dot_5 rfl (by decide) (fun c1 => ?_) (fun c1 => ?_)
  · rw [if_pos c1] at hJ
    refine aw_iconst (n := 23) (v := -1) d_Mod_dot_22 rfl (by decide) ?_
    exact aw_iret d_Mod_dot_23 rfl (ax_ret hJ)
  · rw [if_neg c1] at hJ
    refine aw_aload_n (n := 9) d_Mod_dot_8 rfl rfl 0 rfl ?_
    refine gf_Mod_dots (n := 12) d_Mod_dot_9 rfl kf_Mod_45 ?_
    refine aw_bipush (n := 14) (v := 16) d_Mod_dot_12 rfl (by decide) ?_
    refine aw_iload_n (n := 15) d_Mod_dot_14 rfl rfl 2 rfl ?_
    refine aw_imul (n := 16) d_Mod_dot_15 rfl ?_
    refine aw_iload_n (n := 17) d_Mod_dot_16 rfl rfl 1 rfl ?_
    refine aw_iadd (n := 18) d_Mod_dot_17 rfl ?_
    obtain ⟨h1, hJ⟩ := ax_need hJ
    refine al_43 (n := 19) d_Mod_dot_18 rfl h1 ?_
    refine aw_goto (t := 23) d_Mod_dot_19 (by decide) ?_
    exact aw_iret d_Mod_dot_23 rfl (ax_ret hJ)
abbrev b_Mod_value : ByteArray := prog_10_method_35_code
def y_Mod_value : MethodName := ⟨"DotConsoleModel", "value", "(I)I"⟩
theorem d_Mod_value_0 : decode b_Mod_value 0 = .ok (.iload_n 1, 1) := by decide +kernel
theorem d_Mod_value_1 : decode b_Mod_value 1 = .ok (.ifCond .lt 20, 3) := by decide +kernel
theorem d_Mod_value_4 : decode b_Mod_value 4 = .ok (.iload_n 1, 1) := by decide +kernel
theorem d_Mod_value_5 : decode b_Mod_value 5 = .ok (.aload_n 0, 1) := by decide +kernel
theorem d_Mod_value_6 : decode b_Mod_value 6 = .ok (.getfield 69, 3) := by decide +kernel
theorem d_Mod_value_9 : decode b_Mod_value 9 = .ok (.if_icmp .ge 12, 3) := by decide +kernel
theorem d_Mod_value_12 : decode b_Mod_value 12 = .ok (.aload_n 0, 1) := by decide +kernel
theorem d_Mod_value_13 : decode b_Mod_value 13 = .ok (.getfield 36, 3) := by decide +kernel
theorem d_Mod_value_16 : decode b_Mod_value 16 = .ok (.iload_n 1, 1) := by decide +kernel
theorem d_Mod_value_17 : decode b_Mod_value 17 = .ok (.iaload, 1) := by decide +kernel
theorem d_Mod_value_18 : decode b_Mod_value 18 = .ok (.goto 4, 3) := by decide +kernel
theorem d_Mod_value_21 : decode b_Mod_value 21 = .ok (.iconst 0, 1) := by decide +kernel
theorem d_Mod_value_22 : decode b_Mod_value 22 = .ok (.ireturn, 1) := by decide +kernel
def μ_Mod_value : ax_M := (b_Mod_value, 2, "DotConsoleModel", (some .int), 0, 0, 0, 0)
theorem Y_Mod_value : ax_YV μ_Mod_value y_Mod_value 1 := ⟨⟨ax_mem (by decide +kernel) rfl, ax_mem (by decide +kernel) rfl, by decide, by decide, by decide +kernel⟩, ax_mem (by decide +kernel) rfl, ax_mem (by decide +kernel) rfl⟩
def J_Mod_value (N : Nat) (a1 : Int32) (σ : St) : Option (Int32 × St) :=
  (if a1 < 0 then
  some (0, σ)
  else (if (σ.1 3) ≤ a1 then
  some (0, σ)
  else (if (inB a1 64) = true then some ((σ.2 7 a1.toNatClampNeg), σ) else none)))
set_option maxHeartbeats 1000000 in
theorem c_Mod_value {N : Nat} {g : ax_G} {a1 : Int32} {σ : St} {r9 : Int32} {s9 : St} (hJ : J_Mod_value N a1 σ = some (r9, s9)) : ax_CI μ_Mod_value g y_Mod_value (wM g) [.ref (g.2.1 32), .int a1] σ (ax_eqI r9 s9) := by
  refine ax_CI.of (plainFor_of_name rfl) rfl (Nat.le_of_ble_eq_true rfl) (fun x A _ => ?_)
  show AW x μ_Mod_value g A (wM g) (0, 0) (ax_QI x μ_Mod_value g A (wM g) (ax_eqI r9 s9)) 0 [(0, .ref (g.2.1 32)), (1, .int a1)] [] σ
  rw [J_Mod_value] at hJ
  refine aw_iload_n (n := 1) d_Mod_value_0 rfl rfl 1 rfl ?_
  refine aw_if_lt (n := 4) (t := 21) d_Mod_value_1 rfl (by decide) (fun c1 => ?_) (fun c1 => ?_)
  · rw [if_pos c1] at hJ
    refine aw_iconst (n := 22) (v := 0) d_Mod_value_21 rfl (by decide) ?_
    exact aw_iret d_Mod_value_22 rfl (ax_ret hJ)
  · rw [if_neg c1] at hJ
    refine aw_iload_n (n := 5) d_Mod_value_4 rfl rfl 1 rfl ?_
    refine aw_aload_n (n := 6) d_Mod_value_5 rfl rfl 0 rfl ?_
    refine gf_Mod_names (n := 9) d_Mod_value_6 rfl kf_Mod_69 ?_
    refine aw_icmp_ge (n := 12) (t := 21) d_Mod_value_9 rfl (by decide) (fun c2 => ?_) (fun c2 => ?_)
    · rw [if_pos c2] at hJ
      refine aw_iconst (n := 22) (v := 0) d_Mod_value_21 rfl (by decide) ?_
      exact aw_iret d_Mod_value_22 rfl (ax_ret hJ)
    · rw [if_neg c2] at hJ
      refine aw_aload_n (n := 13) d_Mod_value_12 rfl rfl 0 rfl ?_
      refine gf_Mod_values (n := 16) d_Mod_value_13 rfl kf_Mod_36 ?_
      refine aw_iload_n (n := 17) d_Mod_value_16 rfl rfl 1 rfl ?_
      obtain ⟨h1, hJ⟩ := ax_need hJ
      refine al_40 (n := 18) d_Mod_value_17 rfl h1 ?_
      refine aw_goto (t := 22) d_Mod_value_18 (by decide) ?_
      exact aw_iret d_Mod_value_22 rfl (ax_ret hJ)
abbrev b_Mod_name : ByteArray := prog_10_method_36_code
def y_Mod_name : MethodName := ⟨"DotConsoleModel", "name", "(II)I"⟩
theorem d_Mod_name_0 : decode b_Mod_name 0 = .ok (.iload_n 1, 1) := by decide +kernel
theorem d_Mod_name_1 : decode b_Mod_name 1 = .ok (.ifCond .lt 34, 3) := by decide +kernel
theorem d_Mod_name_4 : decode b_Mod_name 4 = .ok (.iload_n 1, 1) := by decide +kernel
theorem d_Mod_name_5 : decode b_Mod_name 5 = .ok (.aload_n 0, 1) := by decide +kernel
theorem d_Mod_name_6 : decode b_Mod_name 6 = .ok (.getfield 69, 3) := by decide +kernel
theorem d_Mod_name_9 : decode b_Mod_name 9 = .ok (.if_icmp .ge 26, 3) := by decide +kernel
theorem d_Mod_name_12 : decode b_Mod_name 12 = .ok (.iload_n 2, 1) := by decide +kernel
theorem d_Mod_name_13 : decode b_Mod_name 13 = .ok (.ifCond .lt 22, 3) := by decide +kernel
theorem d_Mod_name_16 : decode b_Mod_name 16 = .ok (.iload_n 2, 1) := by decide +kernel
theorem d_Mod_name_17 : decode b_Mod_name 17 = .ok (.iconst 5, 1) := by decide +kernel
theorem d_Mod_name_18 : decode b_Mod_name 18 = .ok (.if_icmp .gt 17, 3) := by decide +kernel
theorem d_Mod_name_21 : decode b_Mod_name 21 = .ok (.aload_n 0, 1) := by decide +kernel
theorem d_Mod_name_22 : decode b_Mod_name 22 = .ok (.getfield 33, 3) := by decide +kernel
theorem d_Mod_name_25 : decode b_Mod_name 25 = .ok (.bipush 6, 2) := by decide +kernel
theorem d_Mod_name_27 : decode b_Mod_name 27 = .ok (.iload_n 1, 1) := by decide +kernel
theorem d_Mod_name_28 : decode b_Mod_name 28 = .ok (.imul, 1) := by decide +kernel
theorem d_Mod_name_29 : decode b_Mod_name 29 = .ok (.iload_n 2, 1) := by decide +kernel
theorem d_Mod_name_30 : decode b_Mod_name 30 = .ok (.iadd, 1) := by decide +kernel
theorem d_Mod_name_31 : decode b_Mod_name 31 = .ok (.caload, 1) := by decide +kernel
theorem d_Mod_name_32 : decode b_Mod_name 32 = .ok (.ifCond .ne 5, 3) := by decide +kernel
theorem d_Mod_name_35 : decode b_Mod_name 35 = .ok (.iconst (-1), 1) := by decide +kernel
theorem d_Mod_name_36 : decode b_Mod_name 36 = .ok (.ireturn, 1) := by decide +kernel
theorem d_Mod_name_37 : decode b_Mod_name 37 = .ok (.aload_n 0, 1) := by decide +kernel
theorem d_Mod_name_38 : decode b_Mod_name 38 = .ok (.getfield 33, 3) := by decide +kernel
theorem d_Mod_name_41 : decode b_Mod_name 41 = .ok (.bipush 6, 2) := by decide +kernel
theorem d_Mod_name_43 : decode b_Mod_name 43 = .ok (.iload_n 1, 1) := by decide +kernel
theorem d_Mod_name_44 : decode b_Mod_name 44 = .ok (.imul, 1) := by decide +kernel
theorem d_Mod_name_45 : decode b_Mod_name 45 = .ok (.iload_n 2, 1) := by decide +kernel
theorem d_Mod_name_46 : decode b_Mod_name 46 = .ok (.iadd, 1) := by decide +kernel
theorem d_Mod_name_47 : decode b_Mod_name 47 = .ok (.caload, 1) := by decide +kernel
theorem d_Mod_name_48 : decode b_Mod_name 48 = .ok (.ireturn, 1) := by decide +kernel
def μ_Mod_name : ax_M := (b_Mod_name, 3, "DotConsoleModel", (some .int), 0, 0, 0, 0)
theorem Y_Mod_name : ax_YV μ_Mod_name y_Mod_name 2 := ⟨⟨ax_mem (by decide +kernel) rfl, ax_mem (by decide +kernel) rfl, by decide, by decide, by decide +kernel⟩, ax_mem (by decide +kernel) rfl, ax_mem (by decide +kernel) rfl⟩
def J_Mod_name (N : Nat) (a1 : Int32) (a2 : Int32) (σ : St) : Option (Int32 × St) :=
  (if a1 < 0 then
  some ((-1), σ)
  else (if (σ.1 3) ≤ a1 then
  some ((-1), σ)
  else (if a2 < 0 then
  some ((-1), σ)
  else (if 5 < a2 then
  some ((-1), σ)
  else (if (inB ((6 * a1) + a2) 600) = true then (if (σ.2 6 ((6 * a1) + a2).toNatClampNeg) = 0 then
  some ((-1), σ)
  else (if (inB ((6 * a1) + a2) 600) = true then some ((σ.2 6 ((6 * a1) + a2).toNatClampNeg), σ) else none)) else none)))))
set_option maxHeartbeats 1000000 in
theorem c_Mod_name {N : Nat} {g : ax_G} {a1 : Int32} {a2 : Int32} {σ : St} {r9 : Int32} {s9 : St} (hJ : J_Mod_name N a1 a2 σ = some (r9, s9)) : ax_CI μ_Mod_name g y_Mod_name (wM g) [.ref (g.2.1 32), .int a1, .int a2] σ (ax_eqI r9 s9) := by
  refine ax_CI.of (plainFor_of_name rfl) rfl (Nat.le_of_ble_eq_true rfl) (fun x A _ => ?_)
  show AW x μ_Mod_name g A (wM g) (0, 0) (ax_QI x μ_Mod_name g A (wM g) (ax_eqI r9 s9)) 0 [(0, .ref (g.2.1 32)), (1, .int a1), (2, .int a2)] [] σ
  rw [J_Mod_name] at hJ
  refine aw_iload_n (n := 1) d_Mod_name_0 rfl rfl 1 rfl ?_
  refine aw_if_lt (n := 4) (t := 35) d_Mod_name_1 rfl (by decide) (fun c1 => ?_) (fun c1 => ?_)
  · rw [if_pos c1] at hJ
    refine aw_iconst (n := 36) (v := -1) d_Mod_name_35 rfl (by decide) ?_
    exact aw_iret d_Mod_name_36 rfl (ax_ret hJ)
  · rw [if_neg c1] at hJ
    refine aw_iload_n (n := 5) d_Mod_name_4 rfl rfl 1 rfl ?_
    refine aw_aload_n (n := 6) d_Mod_name_5 rfl rfl 0 rfl ?_
    refine gf_Mod_names (n := 9) d_Mod_name_6 rfl kf_Mod_69 ?_
    refine aw_icmp_ge (n := 12) (t := 35) d_Mod_name_9 rfl (by decide) (fun c2 => ?_) (fun c2 => ?_)
    · rw [if_pos c2] at hJ
      refine aw_iconst (n := 36) (v := -1) d_Mod_name_35 rfl (by decide) ?_
      exact aw_iret d_Mod_name_36 rfl (ax_ret hJ)
    · rw [if_neg c2] at hJ
      refine aw_iload_n (n := 13) d_Mod_name_12 rfl rfl 2 rfl ?_
      refine aw_if_lt (n := 16) (t := 35) d_Mod_name_13 rfl (by decide) (fun c3 => ?_) (fun c3 => ?_)
      · rw [if_pos c3] at hJ
        refine aw_iconst (n := 36) (v := -1) d_Mod_name_35 rfl (by decide) ?_
        exact aw_iret d_Mod_name_36 rfl (ax_ret hJ)
      · rw [if_neg c3] at hJ
        refine aw_iload_n (n := 17) d_Mod_name_16 rfl rfl 2 rfl ?_
        refine aw_iconst (n := 18) (v := 5) d_Mod_name_17 rfl (by decide) ?_
        refine aw_icmp_gt (n := 21) (t := 35) d_Mod_name_18 rfl (by decide) (fun c4 => ?_) (fun c4 => ?_)
        · rw [if_pos c4] at hJ
          refine aw_iconst (n := 36) (v := -1) d_Mod_name_35 rfl (by decide) ?_
          exact aw_iret d_Mod_name_36 rfl (ax_ret hJ)
        · rw [if_neg c4] at hJ
          refine aw_aload_n (n := 22) d_Mod_name_21 rfl rfl 0 rfl ?_
          refine gf_Mod_nameText (n := 25) d_Mod_name_22 rfl kf_Mod_33 ?_
          refine aw_bipush (n := 27) (v := 6) d_Mod_name_25 rfl (by decide) ?_
          refine aw_iload_n (n := 28) d_Mod_name_27 rfl rfl 1 rfl ?_
          refine aw_imul (n := 29) d_Mod_name_28 rfl ?_
          refine aw_iload_n (n := 30) d_Mod_name_29 rfl rfl 2 rfl ?_
          refine aw_iadd (n := 31) d_Mod_name_30 rfl ?_
          obtain ⟨h1, hJ⟩ := ax_need hJ
          refine al_39 (n := 32) d_Mod_name_31 rfl h1 ?_
          refine aw_if_ne (n := 35) (t := 37) d_Mod_name_32 rfl (by decide) (fun c5 => ?_) (fun c5 => ?_)
          · rw [if_neg c5] at hJ
            refine aw_aload_n (n := 38) d_Mod_name_37 rfl rfl 0 rfl ?_
            refine gf_Mod_nameText (n := 41) d_Mod_name_38 rfl kf_Mod_33 ?_
            refine aw_bipush (n := 43) (v := 6) d_Mod_name_41 rfl (by decide) ?_
            refine aw_iload_n (n := 44) d_Mod_name_43 rfl rfl 1 rfl ?_
            refine aw_imul (n := 45) d_Mod_name_44 rfl ?_
            refine aw_iload_n (n := 46) d_Mod_name_45 rfl rfl 2 rfl ?_
            refine aw_iadd (n := 47) d_Mod_name_46 rfl ?_
            obtain ⟨h2, hJ⟩ := ax_need hJ
            refine al_39 (n := 48) d_Mod_name_47 rfl h2 ?_
            exact aw_iret d_Mod_name_48 rfl (ax_ret hJ)
          · rw [if_pos c5] at hJ
            refine aw_iconst (n := 36) (v := -1) d_Mod_name_35 rfl (by decide) ?_
            exact aw_iret d_Mod_name_36 rfl (ax_ret hJ)
abbrev b_Mod_nodes : ByteArray := prog_10_method_38_code
def y_Mod_nodes : MethodName := ⟨"DotConsoleModel", "nodes", "(I)I"⟩
theorem d_Mod_nodes_0 : decode b_Mod_nodes 0 = .ok (.iload_n 1, 1) := by decide +kernel
theorem d_Mod_nodes_1 : decode b_Mod_nodes 1 = .ok (.iconst 1, 1) := by decide +kernel
theorem d_Mod_nodes_2 : decode b_Mod_nodes 2 = .ok (.if_icmp .lt 22, 3) := by decide +kernel
theorem d_Mod_nodes_5 : decode b_Mod_nodes 5 = .ok (.iload_n 1, 1) := by decide +kernel
theorem d_Mod_nodes_6 : decode b_Mod_nodes 6 = .ok (.aload_n 0, 1) := by decide +kernel
theorem d_Mod_nodes_7 : decode b_Mod_nodes 7 = .ok (.getfield 137, 3) := by decide +kernel
theorem d_Mod_nodes_10 : decode b_Mod_nodes 10 = .ok (.if_icmp .gt 14, 3) := by decide +kernel
theorem d_Mod_nodes_13 : decode b_Mod_nodes 13 = .ok (.aload_n 0, 1) := by decide +kernel
theorem d_Mod_nodes_14 : decode b_Mod_nodes 14 = .ok (.getfield 26, 3) := by decide +kernel
theorem d_Mod_nodes_17 : decode b_Mod_nodes 17 = .ok (.iload_n 1, 1) := by decide +kernel
theorem d_Mod_nodes_18 : decode b_Mod_nodes 18 = .ok (.iconst 1, 1) := by decide +kernel
theorem d_Mod_nodes_19 : decode b_Mod_nodes 19 = .ok (.isub, 1) := by decide +kernel
theorem d_Mod_nodes_20 : decode b_Mod_nodes 20 = .ok (.iaload, 1) := by decide +kernel
theorem d_Mod_nodes_21 : decode b_Mod_nodes 21 = .ok (.goto 4, 3) := by decide +kernel
theorem d_Mod_nodes_24 : decode b_Mod_nodes 24 = .ok (.iconst (-1), 1) := by decide +kernel
theorem d_Mod_nodes_25 : decode b_Mod_nodes 25 = .ok (.ireturn, 1) := by decide +kernel
def μ_Mod_nodes : ax_M := (b_Mod_nodes, 2, "DotConsoleModel", (some .int), 0, 0, 0, 0)
theorem Y_Mod_nodes : ax_YV μ_Mod_nodes y_Mod_nodes 1 := ⟨⟨ax_mem (by decide +kernel) rfl, ax_mem (by decide +kernel) rfl, by decide, by decide, by decide +kernel⟩, ax_mem (by decide +kernel) rfl, ax_mem (by decide +kernel) rfl⟩
def J_Mod_nodes (N : Nat) (a1 : Int32) (σ : St) : Option (Int32 × St) :=
  (if a1 < 1 then
  some ((-1), σ)
  else (if (σ.1 1) < a1 then
  some ((-1), σ)
  else (if (inB (a1 - 1) 29) = true then some ((σ.2 5 (a1 - 1).toNatClampNeg), σ) else none)))
set_option maxHeartbeats 1000000 in
theorem c_Mod_nodes {N : Nat} {g : ax_G} {a1 : Int32} {σ : St} {r9 : Int32} {s9 : St} (hJ : J_Mod_nodes N a1 σ = some (r9, s9)) : ax_CI μ_Mod_nodes g y_Mod_nodes (wM g) [.ref (g.2.1 32), .int a1] σ (ax_eqI r9 s9) := by
  refine ax_CI.of (plainFor_of_name rfl) rfl (Nat.le_of_ble_eq_true rfl) (fun x A _ => ?_)
  show AW x μ_Mod_nodes g A (wM g) (0, 0) (ax_QI x μ_Mod_nodes g A (wM g) (ax_eqI r9 s9)) 0 [(0, .ref (g.2.1 32)), (1, .int a1)] [] σ
  rw [J_Mod_nodes] at hJ
  refine aw_iload_n (n := 1) d_Mod_nodes_0 rfl rfl 1 rfl ?_
  refine aw_iconst (n := 2) (v := 1) d_Mod_nodes_1 rfl (by decide) ?_
  refine aw_icmp_lt (n := 5) (t := 24) d_Mod_nodes_2 rfl (by decide) (fun c1 => ?_) (fun c1 => ?_)
  · rw [if_pos c1] at hJ
    refine aw_iconst (n := 25) (v := -1) d_Mod_nodes_24 rfl (by decide) ?_
    exact aw_iret d_Mod_nodes_25 rfl (ax_ret hJ)
  · rw [if_neg c1] at hJ
    refine aw_iload_n (n := 6) d_Mod_nodes_5 rfl rfl 1 rfl ?_
    refine aw_aload_n (n := 7) d_Mod_nodes_6 rfl rfl 0 rfl ?_
    refine gf_Mod_lines (n := 10) d_Mod_nodes_7 rfl kf_Mod_137 ?_
    refine aw_icmp_gt (n := 13) (t := 24) d_Mod_nodes_10 rfl (by decide) (fun c2 => ?_) (fun c2 => ?_)
    · rw [if_pos c2] at hJ
      refine aw_iconst (n := 25) (v := -1) d_Mod_nodes_24 rfl (by decide) ?_
      exact aw_iret d_Mod_nodes_25 rfl (ax_ret hJ)
    · rw [if_neg c2] at hJ
      refine aw_aload_n (n := 14) d_Mod_nodes_13 rfl rfl 0 rfl ?_
      refine gf_Mod_nodes (n := 17) d_Mod_nodes_14 rfl kf_Mod_26 ?_
      refine aw_iload_n (n := 18) d_Mod_nodes_17 rfl rfl 1 rfl ?_
      refine aw_iconst (n := 19) (v := 1) d_Mod_nodes_18 rfl (by decide) ?_
      refine aw_isub (n := 20) d_Mod_nodes_19 rfl ?_
      obtain ⟨h1, hJ⟩ := ax_need hJ
      refine al_38 (n := 21) d_Mod_nodes_20 rfl h1 ?_
      refine aw_goto (t := 25) d_Mod_nodes_21 (by decide) ?_
      exact aw_iret d_Mod_nodes_25 rfl (ax_ret hJ)
abbrev b_Mod_count : ByteArray := prog_10_method_39_code
def y_Mod_count : MethodName := ⟨"DotConsoleModel", "count", "(I)I"⟩
theorem d_Mod_count_0 : decode b_Mod_count 0 = .ok (.iload_n 1, 1) := by decide +kernel
theorem d_Mod_count_1 : decode b_Mod_count 1 = .ok (.tableswitch 77 0 5 #[39, 44, 49, 54, 59, 64], 39) := by decide +kernel
theorem d_Mod_count_40 : decode b_Mod_count 40 = .ok (.aload_n 0, 1) := by decide +kernel
theorem d_Mod_count_41 : decode b_Mod_count 41 = .ok (.getfield 137, 3) := by decide +kernel
theorem d_Mod_count_44 : decode b_Mod_count 44 = .ok (.ireturn, 1) := by decide +kernel
theorem d_Mod_count_45 : decode b_Mod_count 45 = .ok (.aload_n 0, 1) := by decide +kernel
theorem d_Mod_count_46 : decode b_Mod_count 46 = .ok (.getfield 66, 3) := by decide +kernel
theorem d_Mod_count_49 : decode b_Mod_count 49 = .ok (.ireturn, 1) := by decide +kernel
theorem d_Mod_count_50 : decode b_Mod_count 50 = .ok (.aload_n 0, 1) := by decide +kernel
theorem d_Mod_count_51 : decode b_Mod_count 51 = .ok (.getfield 69, 3) := by decide +kernel
theorem d_Mod_count_54 : decode b_Mod_count 54 = .ok (.ireturn, 1) := by decide +kernel
theorem d_Mod_count_55 : decode b_Mod_count 55 = .ok (.aload_n 0, 1) := by decide +kernel
theorem d_Mod_count_56 : decode b_Mod_count 56 = .ok (.getfield 180, 3) := by decide +kernel
theorem d_Mod_count_59 : decode b_Mod_count 59 = .ok (.ireturn, 1) := by decide +kernel
theorem d_Mod_count_60 : decode b_Mod_count 60 = .ok (.aload_n 0, 1) := by decide +kernel
theorem d_Mod_count_61 : decode b_Mod_count 61 = .ok (.getfield 183, 3) := by decide +kernel
theorem d_Mod_count_64 : decode b_Mod_count 64 = .ok (.ireturn, 1) := by decide +kernel
theorem d_Mod_count_65 : decode b_Mod_count 65 = .ok (.aload_n 0, 1) := by decide +kernel
theorem d_Mod_count_66 : decode b_Mod_count 66 = .ok (.getfield 113, 3) := by decide +kernel
theorem d_Mod_count_69 : decode b_Mod_count 69 = .ok (.ifCond .eq 7, 3) := by decide +kernel
theorem d_Mod_count_72 : decode b_Mod_count 72 = .ok (.iconst 1, 1) := by decide +kernel
theorem d_Mod_count_73 : decode b_Mod_count 73 = .ok (.goto 4, 3) := by decide +kernel
theorem d_Mod_count_76 : decode b_Mod_count 76 = .ok (.iconst 0, 1) := by decide +kernel
theorem d_Mod_count_77 : decode b_Mod_count 77 = .ok (.ireturn, 1) := by decide +kernel
theorem d_Mod_count_78 : decode b_Mod_count 78 = .ok (.iconst (-1), 1) := by decide +kernel
theorem d_Mod_count_79 : decode b_Mod_count 79 = .ok (.ireturn, 1) := by decide +kernel
def μ_Mod_count : ax_M := (b_Mod_count, 2, "DotConsoleModel", (some .int), 0, 0, 0, 0)
theorem Y_Mod_count : ax_YV μ_Mod_count y_Mod_count 1 := ⟨⟨ax_mem (by decide +kernel) rfl, ax_mem (by decide +kernel) rfl, by decide, by decide, by decide +kernel⟩, ax_mem (by decide +kernel) rfl, ax_mem (by decide +kernel) rfl⟩
def J_Mod_count (N : Nat) (a1 : Int32) (σ : St) : Option (Int32 × St) :=
  (if a1 = 0 then some ((σ.1 1), σ)
  else (if a1 = 1 then some ((σ.1 0), σ)
  else (if a1 = 2 then some ((σ.1 3), σ)
  else (if a1 = 3 then some ((σ.1 6), σ)
  else (if a1 = 4 then some ((σ.1 7), σ)
  else (if a1 = 5 then (if (σ.1 4) = 0 then
  some (0, σ)
  else some (1, σ))
  else some ((-1), σ)))))))
set_option maxHeartbeats 1000000 in
theorem c_Mod_count {N : Nat} {g : ax_G} {a1 : Int32} {σ : St} {r9 : Int32} {s9 : St} (hJ : J_Mod_count N a1 σ = some (r9, s9)) : ax_CI μ_Mod_count g y_Mod_count (wM g) [.ref (g.2.1 32), .int a1] σ (ax_eqI r9 s9) := by
  refine ax_CI.of (plainFor_of_name rfl) rfl (Nat.le_of_ble_eq_true rfl) (fun x A _ => ?_)
  show AW x μ_Mod_count g A (wM g) (0, 0) (ax_QI x μ_Mod_count g A (wM g) (ax_eqI r9 s9)) 0 [(0, .ref (g.2.1 32)), (1, .int a1)] [] σ
  rw [J_Mod_count] at hJ
  refine aw_iload_n (n := 1) d_Mod_count_0 rfl rfl 1 rfl ?_
  rcases ax_ifE hJ with ⟨c1, hJ⟩ | ⟨c1, hJ⟩
  · refine aw_tableIn (t := 40) (off := 39) d_Mod_count_1 (by rw [c1]; decide) (by rw [c1]; decide) (by first | (rw [c1]; done) | (rw [c1]; decide)) (by decide) ?_
    refine aw_aload_n (n := 41) d_Mod_count_40 rfl rfl 0 rfl ?_
    refine gf_Mod_lines (n := 44) d_Mod_count_41 rfl kf_Mod_137 ?_
    exact aw_iret d_Mod_count_44 rfl (ax_ret hJ)
  rcases ax_ifE hJ with ⟨c2, hJ⟩ | ⟨c2, hJ⟩
  · refine aw_tableIn (t := 45) (off := 44) d_Mod_count_1 (by rw [c2]; decide) (by rw [c2]; decide) (by first | (rw [c2]; done) | (rw [c2]; decide)) (by decide) ?_
    refine aw_aload_n (n := 46) d_Mod_count_45 rfl rfl 0 rfl ?_
    refine gf_Mod_length (n := 49) d_Mod_count_46 rfl kf_Mod_66 ?_
    exact aw_iret d_Mod_count_49 rfl (ax_ret hJ)
  rcases ax_ifE hJ with ⟨c3, hJ⟩ | ⟨c3, hJ⟩
  · refine aw_tableIn (t := 50) (off := 49) d_Mod_count_1 (by rw [c3]; decide) (by rw [c3]; decide) (by first | (rw [c3]; done) | (rw [c3]; decide)) (by decide) ?_
    refine aw_aload_n (n := 51) d_Mod_count_50 rfl rfl 0 rfl ?_
    refine gf_Mod_names (n := 54) d_Mod_count_51 rfl kf_Mod_69 ?_
    exact aw_iret d_Mod_count_54 rfl (ax_ret hJ)
  rcases ax_ifE hJ with ⟨c4, hJ⟩ | ⟨c4, hJ⟩
  · refine aw_tableIn (t := 55) (off := 54) d_Mod_count_1 (by rw [c4]; decide) (by rw [c4]; decide) (by first | (rw [c4]; done) | (rw [c4]; decide)) (by decide) ?_
    refine aw_aload_n (n := 56) d_Mod_count_55 rfl rfl 0 rfl ?_
    refine gf_Mod_frames (n := 59) d_Mod_count_56 rfl kf_Mod_180 ?_
    exact aw_iret d_Mod_count_59 rfl (ax_ret hJ)
  rcases ax_ifE hJ with ⟨c5, hJ⟩ | ⟨c5, hJ⟩
  · refine aw_tableIn (t := 60) (off := 59) d_Mod_count_1 (by rw [c5]; decide) (by rw [c5]; decide) (by first | (rw [c5]; done) | (rw [c5]; decide)) (by decide) ?_
    refine aw_aload_n (n := 61) d_Mod_count_60 rfl rfl 0 rfl ?_
    refine gf_Mod_steps (n := 64) d_Mod_count_61 rfl kf_Mod_183 ?_
    exact aw_iret d_Mod_count_64 rfl (ax_ret hJ)
  rcases ax_ifE hJ with ⟨c6, hJ⟩ | ⟨c6, hJ⟩
  · refine aw_tableIn (t := 65) (off := 64) d_Mod_count_1 (by rw [c6]; decide) (by rw [c6]; decide) (by first | (rw [c6]; done) | (rw [c6]; decide)) (by decide) ?_
    refine aw_aload_n (n := 66) d_Mod_count_65 rfl rfl 0 rfl ?_
    refine gf_Mod_sealed (n := 69) d_Mod_count_66 rfl kf_Mod_113 ?_
    refine aw_if_eq (n := 72) (t := 76) d_Mod_count_69 rfl (by decide) (fun c7 => ?_) (fun c7 => ?_)
    · rw [if_pos c7] at hJ
      refine aw_iconst (n := 77) (v := 0) d_Mod_count_76 rfl (by decide) ?_
      exact aw_iret d_Mod_count_77 rfl (ax_ret hJ)
    · rw [if_neg c7] at hJ
      refine aw_iconst (n := 73) (v := 1) d_Mod_count_72 rfl (by decide) ?_
      refine aw_goto (t := 77) d_Mod_count_73 (by decide) ?_
      exact aw_iret d_Mod_count_77 rfl (ax_ret hJ)
  have q0 := lv_neT (a := 0) c1 (by decide)
  have q1 := lv_neT (a := 1) c2 (by decide)
  have q2 := lv_neT (a := 2) c3 (by decide)
  have q3 := lv_neT (a := 3) c4 (by decide)
  have q4 := lv_neT (a := 4) c5 (by decide)
  have q5 := lv_neT (a := 5) c6 (by decide)
  refine aw_tableOut (t := 78) d_Mod_count_1 (by omega) (by decide) ?_
  refine aw_iconst (n := 79) (v := -1) d_Mod_count_78 rfl (by decide) ?_
  exact aw_iret d_Mod_count_79 rfl (ax_ret hJ)
