/-! WALKED: Machine_workOut, Machine_colour, CArrays_fill_29, Screen_paintAll, Screen_paint, CMath_abs, CMath_floorDiv, Screen_rounded, Screen_paintLine, Screen_paintBox, Machine_draw, Machine_writeCell. Printed by wip/whole/build.py. -/
abbrev b_Machine_workOut : ByteArray := prog_3_method_8_code
def y_Machine_workOut : MethodName := ⟨"DotConsole$Machine", "workOut", "(I)V"⟩
theorem d_Machine_workOut_0 : decode b_Machine_workOut 0 = .ok (.aload_n 0, 1) := by decide +kernel
theorem d_Machine_workOut_1 : decode b_Machine_workOut 1 = .ok (.iconst 0, 1) := by decide +kernel
theorem d_Machine_workOut_2 : decode b_Machine_workOut 2 = .ok (.putfield 113, 3) := by decide +kernel
theorem d_Machine_workOut_5 : decode b_Machine_workOut 5 = .ok (.iload_n 1, 1) := by decide +kernel
theorem d_Machine_workOut_6 : decode b_Machine_workOut 6 = .ok (.bipush 16, 2) := by decide +kernel
theorem d_Machine_workOut_8 : decode b_Machine_workOut 8 = .ok (.imul, 1) := by decide +kernel
theorem d_Machine_workOut_9 : decode b_Machine_workOut 9 = .ok (.istore_n 2, 1) := by decide +kernel
theorem d_Machine_workOut_10 : decode b_Machine_workOut 10 = .ok (.iload_n 2, 1) := by decide +kernel
theorem d_Machine_workOut_11 : decode b_Machine_workOut 11 = .ok (.istore_n 3, 1) := by decide +kernel
theorem d_Machine_workOut_12 : decode b_Machine_workOut 12 = .ok (.iload_n 3, 1) := by decide +kernel
theorem d_Machine_workOut_13 : decode b_Machine_workOut 13 = .ok (.iload_n 2, 1) := by decide +kernel
theorem d_Machine_workOut_14 : decode b_Machine_workOut 14 = .ok (.aload_n 0, 1) := by decide +kernel
theorem d_Machine_workOut_15 : decode b_Machine_workOut 15 = .ok (.getfield 39, 3) := by decide +kernel
theorem d_Machine_workOut_18 : decode b_Machine_workOut 18 = .ok (.getfield 116, 3) := by decide +kernel
theorem d_Machine_workOut_21 : decode b_Machine_workOut 21 = .ok (.iload_n 1, 1) := by decide +kernel
theorem d_Machine_workOut_22 : decode b_Machine_workOut 22 = .ok (.iaload, 1) := by decide +kernel
theorem d_Machine_workOut_23 : decode b_Machine_workOut 23 = .ok (.iadd, 1) := by decide +kernel
theorem d_Machine_workOut_24 : decode b_Machine_workOut 24 = .ok (.if_icmp .ge 31, 3) := by decide +kernel
theorem d_Machine_workOut_27 : decode b_Machine_workOut 27 = .ok (.aload_n 0, 1) := by decide +kernel
theorem d_Machine_workOut_28 : decode b_Machine_workOut 28 = .ok (.aload_n 0, 1) := by decide +kernel
theorem d_Machine_workOut_29 : decode b_Machine_workOut 29 = .ok (.getfield 39, 3) := by decide +kernel
theorem d_Machine_workOut_32 : decode b_Machine_workOut 32 = .ok (.getfield 119, 3) := by decide +kernel
theorem d_Machine_workOut_35 : decode b_Machine_workOut 35 = .ok (.iload_n 3, 1) := by decide +kernel
theorem d_Machine_workOut_36 : decode b_Machine_workOut 36 = .ok (.iaload, 1) := by decide +kernel
theorem d_Machine_workOut_37 : decode b_Machine_workOut 37 = .ok (.aload_n 0, 1) := by decide +kernel
theorem d_Machine_workOut_38 : decode b_Machine_workOut 38 = .ok (.getfield 39, 3) := by decide +kernel
theorem d_Machine_workOut_41 : decode b_Machine_workOut 41 = .ok (.getfield 122, 3) := by decide +kernel
theorem d_Machine_workOut_44 : decode b_Machine_workOut 44 = .ok (.iload_n 3, 1) := by decide +kernel
theorem d_Machine_workOut_45 : decode b_Machine_workOut 45 = .ok (.iaload, 1) := by decide +kernel
theorem d_Machine_workOut_46 : decode b_Machine_workOut 46 = .ok (.invokevirtual 125, 3) := by decide +kernel
theorem d_Machine_workOut_49 : decode b_Machine_workOut 49 = .ok (.iinc 3 1, 3) := by decide +kernel
theorem d_Machine_workOut_52 : decode b_Machine_workOut 52 = .ok (.goto (-40), 3) := by decide +kernel
theorem d_Machine_workOut_55 : decode b_Machine_workOut 55 = .ok (.return_, 1) := by decide +kernel
def μ_Machine_workOut : ax_M := (b_Machine_workOut, 4, "DotConsole$Machine", none, 4, 89, 0, 0)
theorem Y_Machine_workOut : ax_YV μ_Machine_workOut y_Machine_workOut 1 := ⟨⟨ax_mem (by decide +kernel) rfl, ax_mem (by decide +kernel) rfl, by decide, by decide, by decide +kernel⟩, ax_mem (by decide +kernel) rfl, ax_mem (by decide +kernel) rfl⟩
theorem kf_Machine_39 : Cond.fieldLink "DotConsole$Machine" 39 "DotConsole$Machine" "program" "LDotConsole$Program;" ∈ ax_T := ax_mem (by decide +kernel) rfl
theorem kf_Machine_116 : Cond.fieldLink "DotConsole$Machine" 116 "DotConsole$Program" "nodeCounts" "[I" ∈ ax_T := ax_mem (by decide +kernel) rfl
theorem kf_Machine_119 : Cond.fieldLink "DotConsole$Machine" 119 "DotConsole$Program" "kinds" "[I" ∈ ax_T := ax_mem (by decide +kernel) rfl
theorem kf_Machine_122 : Cond.fieldLink "DotConsole$Machine" 122 "DotConsole$Program" "operands" "[I" ∈ ax_T := ax_mem (by decide +kernel) rfl
theorem km_Machine_125 : Cond.methodLink "DotConsole$Machine" 125 ⟨"DotConsole$Machine", "workOutNode", "(II)V"⟩ ∈ ax_T := ax_mem (by decide +kernel) rfl
def J_Machine_workOut_12 (N : Nat) : Nat → Int32 → Int32 → Int32 → St → Option St
  | 0, _, _, _, _ => none
  | n + 1, l1, l2, l3, σ => (if (inB l1 28) = true then (if (l2 + (σ.2 14 l1.toNatClampNeg)) ≤ l3 then
  some σ
  else (if (inB l3 448) = true then (if (inB l3 448) = true then ax_bindV (J_Machine_workOutNode N (σ.2 15 l3.toNatClampNeg) (σ.2 16 l3.toNatClampNeg) σ) (fun σ2 =>
  ax_let ((l3 + 1) : Int32) (fun v2 =>
  J_Machine_workOut_12 N n l1 l2 v2 σ2)) else none) else none)) else none)
def J_Machine_workOut (N : Nat) (a1 : Int32) (σ : St) : Option St :=
  ax_let (sF σ 22 0) (fun σ1 =>
  ax_let ((a1 * 16) : Int32) (fun v1 =>
  J_Machine_workOut_12 N N a1 v1 v1 σ1))
set_option maxHeartbeats 1000000 in
theorem t_Machine_workOut_12 {N : Nat} {g : ax_G} {s9 : St} (x : ax_X) (A : Nat → Prop) : ∀ (n : Nat) (l1 : Int32) (l2 : Int32) (l3 : Int32) (σ : St), J_Machine_workOut_12 N n l1 l2 l3 σ = some s9 → AW x μ_Machine_workOut g A (wC g) (0, 0) (ax_QV x μ_Machine_workOut g A (wC g) (ax_eqV s9)) 12 [(0, .ref (g.2.1 24)), (1, .int l1), (2, .int l2), (3, .int l3)] [] σ := by
  intro n
  induction n with
  | zero => intro l1 l2 l3 σ hJ; rw [J_Machine_workOut_12] at hJ; cases hJ
  | succ n ih =>
    intro l1 l2 l3 σ hJ
    rw [J_Machine_workOut_12] at hJ
    refine aw_iload_n (n := 13) d_Machine_workOut_12 rfl rfl 3 rfl ?_
    refine aw_iload_n (n := 14) d_Machine_workOut_13 rfl rfl 2 rfl ?_
    refine aw_aload_n (n := 15) d_Machine_workOut_14 rfl rfl 0 rfl ?_
    refine gf_Machine_program (n := 18) d_Machine_workOut_15 rfl kf_Machine_39 ?_
    refine gf_Program_nodeCounts (n := 21) d_Machine_workOut_18 rfl kf_Machine_116 ?_
    refine aw_iload_n (n := 22) d_Machine_workOut_21 rfl rfl 1 rfl ?_
    obtain ⟨h1, hJ⟩ := ax_need hJ
    refine al_19 (n := 23) d_Machine_workOut_22 rfl h1 ?_
    refine aw_iadd (n := 24) d_Machine_workOut_23 rfl ?_
    refine aw_icmp_ge (n := 27) (t := 55) d_Machine_workOut_24 rfl (by decide) (fun c1 => ?_) (fun c1 => ?_)
    · rw [if_pos c1] at hJ
      exact aw_vret d_Machine_workOut_55 rfl (ax_retV hJ)
    · rw [if_neg c1] at hJ
      refine aw_aload_n (n := 28) d_Machine_workOut_27 rfl rfl 0 rfl ?_
      refine aw_aload_n (n := 29) d_Machine_workOut_28 rfl rfl 0 rfl ?_
      refine gf_Machine_program (n := 32) d_Machine_workOut_29 rfl kf_Machine_39 ?_
      refine gf_Program_kinds (n := 35) d_Machine_workOut_32 rfl kf_Machine_119 ?_
      refine aw_iload_n (n := 36) d_Machine_workOut_35 rfl rfl 3 rfl ?_
      obtain ⟨h2, hJ⟩ := ax_need hJ
      refine al_20 (n := 37) d_Machine_workOut_36 rfl h2 ?_
      refine aw_aload_n (n := 38) d_Machine_workOut_37 rfl rfl 0 rfl ?_
      refine gf_Machine_program (n := 41) d_Machine_workOut_38 rfl kf_Machine_39 ?_
      refine gf_Program_operands (n := 44) d_Machine_workOut_41 rfl kf_Machine_122 ?_
      refine aw_iload_n (n := 45) d_Machine_workOut_44 rfl rfl 3 rfl ?_
      obtain ⟨h3, hJ⟩ := ax_need hJ
      refine al_21 (n := 46) d_Machine_workOut_45 rfl h3 ?_
      obtain ⟨σ2, hc1, hJ⟩ := ax_bindVE hJ
      refine aw_callVv (n := 49) (c_Machine_workOutNode hc1) 24 rfl rfl Y_Machine_workOutNode km_Machine_125 (by decide) (by decide) rfl rfl (Nat.le_of_ble_eq_true rfl) d_Machine_workOut_46 rfl (fun s9 hp => ?_)
      subst hp
      obtain ⟨v2, ev2, hJ⟩ := ax_letE hJ
      refine aw_iinc (n := 52) (j := 3) (v := v2) d_Machine_workOut_49 rfl rfl (ev2) (by decide) rfl ?_
      refine aw_goto (t := 12) d_Machine_workOut_52 (by decide) ?_
      refine aw_sub [1, 2, 3, 0] rfl ?_
      exact ih _ _ _ _ hJ
set_option maxHeartbeats 1000000 in
theorem c_Machine_workOut {N : Nat} {g : ax_G} {a1 : Int32} {σ : St} {s9 : St} (hJ : J_Machine_workOut N a1 σ = some s9) : ax_CV μ_Machine_workOut g y_Machine_workOut (wC g) [.ref (g.2.1 24), .int a1] σ (ax_eqV s9) := by
  refine ax_CV.of (plainFor_of_name rfl) rfl (Nat.le_of_ble_eq_true rfl) (fun x A _ => ?_)
  show AW x μ_Machine_workOut g A (wC g) (0, 0) (ax_QV x μ_Machine_workOut g A (wC g) (ax_eqV s9)) 0 [(0, .ref (g.2.1 24)), (1, .int a1)] [] σ
  rw [J_Machine_workOut] at hJ
  refine aw_aload_n (n := 1) d_Machine_workOut_0 rfl rfl 0 rfl ?_
  refine aw_iconst (n := 2) (v := 0) d_Machine_workOut_1 rfl (by decide) ?_
  refine pf_Machine_stackCount (n := 5) d_Machine_workOut_2 rfl kf_Machine_113 ?_
  obtain ⟨σ1, eσ1, hJ⟩ := ax_letE hJ
  refine aw_let eσ1 ?_
  refine aw_iload_n (n := 6) d_Machine_workOut_5 rfl rfl 1 rfl ?_
  refine aw_bipush (n := 8) (v := 16) d_Machine_workOut_6 rfl (by decide) ?_
  refine aw_imul (n := 9) d_Machine_workOut_8 rfl ?_
  obtain ⟨v1, ev1, hJ⟩ := ax_letE hJ
  refine aw_top ev1 ?_
  refine aw_istore_n (n := 10) d_Machine_workOut_9 rfl rfl (by decide) rfl ?_
  refine aw_iload_n (n := 11) d_Machine_workOut_10 rfl rfl 0 rfl ?_
  refine aw_istore_n (n := 12) d_Machine_workOut_11 rfl rfl (by decide) rfl ?_
  refine aw_sub [2, 3, 1, 0] rfl ?_
  exact t_Machine_workOut_12 x A N _ _ _ _ hJ
abbrev b_Machine_colour : ByteArray := prog_3_method_16_code
def y_Machine_colour : MethodName := ⟨"DotConsole$Machine", "colour", "(I)I"⟩
theorem d_Machine_colour_0 : decode b_Machine_colour 0 = .ok (.iload_n 0, 1) := by decide +kernel
theorem d_Machine_colour_1 : decode b_Machine_colour 1 = .ok (.invokestatic 89, 3) := by decide +kernel
theorem d_Machine_colour_4 : decode b_Machine_colour 4 = .ok (.bipush 15, 2) := by decide +kernel
theorem d_Machine_colour_6 : decode b_Machine_colour 6 = .ok (.iand, 1) := by decide +kernel
theorem d_Machine_colour_7 : decode b_Machine_colour 7 = .ok (.ireturn, 1) := by decide +kernel
def μ_Machine_colour : ax_M := (b_Machine_colour, 1, "DotConsole$Machine", (some .int), 1, 20, 0, 0)
theorem Y_Machine_colour : ax_YS μ_Machine_colour y_Machine_colour 1 := ⟨⟨ax_mem (by decide +kernel) rfl, ax_mem (by decide +kernel) rfl, by decide, by decide, by decide +kernel⟩, ax_mem (by decide +kernel) rfl⟩
def J_Machine_colour (N : Nat) (a0 : Int32) (σ : St) : Option (Int32 × St) :=
  ax_bind (J_Machine_floor N a0 σ) (fun r1 σ1 =>
  some ((r1 &&& 15), σ1))
set_option maxHeartbeats 1000000 in
theorem c_Machine_colour {N : Nat} {g : ax_G} {a0 : Int32} {σ : St} {r9 : Int32} {s9 : St} (hJ : J_Machine_colour N a0 σ = some (r9, s9)) : ax_CI μ_Machine_colour g y_Machine_colour (wC g) [.int a0] σ (ax_eqI r9 s9) := by
  refine ax_CI.of (plainFor_of_name rfl) rfl (Nat.le_of_ble_eq_true rfl) (fun x A _ => ?_)
  show AW x μ_Machine_colour g A (wC g) (0, 0) (ax_QI x μ_Machine_colour g A (wC g) (ax_eqI r9 s9)) 0 [(0, .int a0)] [] σ
  rw [J_Machine_colour] at hJ
  refine aw_iload_n (n := 1) d_Machine_colour_0 rfl rfl 0 rfl ?_
  obtain ⟨r1, σ1, hc1, hJ⟩ := ax_bindE hJ
  refine aw_callSi (n := 4) (c_Machine_floor hc1) Y_Machine_floor km_Machine_89 (by decide) (by decide) rfl rfl (Nat.le_of_ble_eq_true rfl) d_Machine_colour_1 rfl (fun r9 s9 hp => ?_)
  obtain ⟨rfl, rfl⟩ := hp
  refine aw_bipush (n := 6) (v := 15) d_Machine_colour_4 rfl (by decide) ?_
  refine aw_iand (n := 7) d_Machine_colour_6 rfl ?_
  exact aw_iret d_Machine_colour_7 rfl (ax_ret hJ)
abbrev b_Arrays_fill : ByteArray := prog_17_method_103_code
def y_Arrays_fill : MethodName := ⟨"java/util/Arrays", "fill", "([II)V"⟩
theorem d_Arrays_fill_0 : decode b_Arrays_fill 0 = .ok (.iconst 0, 1) := by decide +kernel
theorem d_Arrays_fill_1 : decode b_Arrays_fill 1 = .ok (.istore_n 2, 1) := by decide +kernel
theorem d_Arrays_fill_2 : decode b_Arrays_fill 2 = .ok (.aload_n 0, 1) := by decide +kernel
theorem d_Arrays_fill_3 : decode b_Arrays_fill 3 = .ok (.arraylength, 1) := by decide +kernel
theorem d_Arrays_fill_4 : decode b_Arrays_fill 4 = .ok (.istore_n 3, 1) := by decide +kernel
theorem d_Arrays_fill_5 : decode b_Arrays_fill 5 = .ok (.iload_n 2, 1) := by decide +kernel
theorem d_Arrays_fill_6 : decode b_Arrays_fill 6 = .ok (.iload_n 3, 1) := by decide +kernel
theorem d_Arrays_fill_7 : decode b_Arrays_fill 7 = .ok (.if_icmp .ge 13, 3) := by decide +kernel
theorem d_Arrays_fill_10 : decode b_Arrays_fill 10 = .ok (.aload_n 0, 1) := by decide +kernel
theorem d_Arrays_fill_11 : decode b_Arrays_fill 11 = .ok (.iload_n 2, 1) := by decide +kernel
theorem d_Arrays_fill_12 : decode b_Arrays_fill 12 = .ok (.iload_n 1, 1) := by decide +kernel
theorem d_Arrays_fill_13 : decode b_Arrays_fill 13 = .ok (.iastore, 1) := by decide +kernel
theorem d_Arrays_fill_14 : decode b_Arrays_fill 14 = .ok (.iinc 2 1, 3) := by decide +kernel
theorem d_Arrays_fill_17 : decode b_Arrays_fill 17 = .ok (.goto (-12), 3) := by decide +kernel
theorem d_Arrays_fill_20 : decode b_Arrays_fill 20 = .ok (.return_, 1) := by decide +kernel
def μ_CArrays_fill_29 : ax_M := (b_Arrays_fill, 4, "java/util/Arrays", none, 0, 0, 0, 0)
theorem Y_CArrays_fill_29 : ax_YS μ_CArrays_fill_29 y_Arrays_fill 2 := ⟨⟨ax_mem (by decide +kernel) rfl, ax_mem (by decide +kernel) rfl, by decide, by decide, by decide +kernel⟩, ax_mem (by decide +kernel) rfl⟩
def J_CArrays_fill_29_5 (N : Nat) : Nat → Int32 → Int32 → Int32 → St → Option St
  | 0, _, _, _, _ => none
  | n + 1, l1, l2, l3, σ => (if l3 ≤ l2 then
  some σ
  else (if (inB l2 256) = true then ax_let (sA σ 22 l2.toNatClampNeg l1) (fun σ1 =>
  ax_let ((l2 + 1) : Int32) (fun v1 =>
  J_CArrays_fill_29_5 N n l1 v1 l3 σ1)) else none))
def J_CArrays_fill_29 (N : Nat) (a1 : Int32) (σ : St) : Option St :=
  J_CArrays_fill_29_5 N N a1 0 256 σ
set_option maxHeartbeats 1000000 in
theorem t_CArrays_fill_29_5 {N : Nat} {g : ax_G} {s9 : St} (x : ax_X) (A : Nat → Prop) : ∀ (n : Nat) (l1 : Int32) (l2 : Int32) (l3 : Int32) (σ : St), J_CArrays_fill_29_5 N n l1 l2 l3 σ = some s9 → AW x μ_CArrays_fill_29 g A (wC g) (0, 0) (ax_QV x μ_CArrays_fill_29 g A (wC g) (ax_eqV s9)) 5 [(0, .ref (g.2.1 29)), (1, .int l1), (2, .int l2), (3, .int l3)] [] σ := by
  intro n
  induction n with
  | zero => intro l1 l2 l3 σ hJ; rw [J_CArrays_fill_29_5] at hJ; cases hJ
  | succ n ih =>
    intro l1 l2 l3 σ hJ
    rw [J_CArrays_fill_29_5] at hJ
    refine aw_iload_n (n := 6) d_Arrays_fill_5 rfl rfl 2 rfl ?_
    refine aw_iload_n (n := 7) d_Arrays_fill_6 rfl rfl 3 rfl ?_
    refine aw_icmp_ge (n := 10) (t := 20) d_Arrays_fill_7 rfl (by decide) (fun c1 => ?_) (fun c1 => ?_)
    · rw [if_pos c1] at hJ
      exact aw_vret d_Arrays_fill_20 rfl (ax_retV hJ)
    · rw [if_neg c1] at hJ
      refine aw_aload_n (n := 11) d_Arrays_fill_10 rfl rfl 0 rfl ?_
      refine aw_iload_n (n := 12) d_Arrays_fill_11 rfl rfl 2 rfl ?_
      refine aw_iload_n (n := 13) d_Arrays_fill_12 rfl rfl 1 rfl ?_
      obtain ⟨h1, hJ⟩ := ax_need hJ
      refine as_29 (n := 14) d_Arrays_fill_13 rfl h1 ?_
      obtain ⟨σ1, eσ1, hJ⟩ := ax_letE hJ
      refine aw_let eσ1 ?_
      obtain ⟨v1, ev1, hJ⟩ := ax_letE hJ
      refine aw_iinc (n := 17) (j := 2) (v := v1) d_Arrays_fill_14 rfl rfl (ev1) (by decide) rfl ?_
      refine aw_goto (t := 5) d_Arrays_fill_17 (by decide) ?_
      refine aw_sub [1, 2, 0, 3] rfl ?_
      exact ih _ _ _ _ hJ
set_option maxHeartbeats 1000000 in
theorem c_CArrays_fill_29 {N : Nat} {g : ax_G} {a1 : Int32} {σ : St} {s9 : St} (hJ : J_CArrays_fill_29 N a1 σ = some s9) : ax_CV μ_CArrays_fill_29 g y_Arrays_fill (wC g) [.ref (g.2.1 29), .int a1] σ (ax_eqV s9) := by
  refine ax_CV.of (by decide +kernel) rfl (Nat.le_of_ble_eq_true rfl) (fun x A _ => ?_)
  show AW x μ_CArrays_fill_29 g A (wC g) (0, 0) (ax_QV x μ_CArrays_fill_29 g A (wC g) (ax_eqV s9)) 0 [(0, .ref (g.2.1 29)), (1, .int a1)] [] σ
  rw [J_CArrays_fill_29] at hJ
  refine aw_iconst (n := 1) (v := 0) d_Arrays_fill_0 rfl (by decide) ?_
  refine aw_istore_n (n := 2) d_Arrays_fill_1 rfl rfl (by decide) rfl ?_
  refine aw_aload_n (n := 3) d_Arrays_fill_2 rfl rfl 1 rfl ?_
  refine an_29 (n := 4) d_Arrays_fill_3 rfl ?_
  refine aw_istore_n (n := 5) d_Arrays_fill_4 rfl rfl (by decide) rfl ?_
  refine aw_sub [2, 3, 1, 0] rfl ?_
  exact t_CArrays_fill_29_5 x A N _ _ _ _ hJ
abbrev b_Screen_paintAll : ByteArray := prog_7_method_5_code
def y_Screen_paintAll : MethodName := ⟨"DotConsole$Screen", "paintAll", "(I)V"⟩
theorem d_Screen_paintAll_0 : decode b_Screen_paintAll 0 = .ok (.aload_n 0, 1) := by decide +kernel
theorem d_Screen_paintAll_1 : decode b_Screen_paintAll 1 = .ok (.getfield 9, 3) := by decide +kernel
theorem d_Screen_paintAll_4 : decode b_Screen_paintAll 4 = .ok (.iload_n 1, 1) := by decide +kernel
theorem d_Screen_paintAll_5 : decode b_Screen_paintAll 5 = .ok (.invokestatic 19, 3) := by decide +kernel
theorem d_Screen_paintAll_8 : decode b_Screen_paintAll 8 = .ok (.return_, 1) := by decide +kernel
def μ_Screen_paintAll : ax_M := (b_Screen_paintAll, 2, "DotConsole$Screen", none, 1, 23, 0, 0)
theorem Y_Screen_paintAll : ax_YV μ_Screen_paintAll y_Screen_paintAll 1 := ⟨⟨ax_mem (by decide +kernel) rfl, ax_mem (by decide +kernel) rfl, by decide, by decide, by decide +kernel⟩, ax_mem (by decide +kernel) rfl, ax_mem (by decide +kernel) rfl⟩
theorem km_Screen_19 : Cond.methodLink "DotConsole$Screen" 19 ⟨"java/util/Arrays", "fill", "([II)V"⟩ ∈ ax_T := ax_mem (by decide +kernel) rfl
def J_Screen_paintAll (N : Nat) (a1 : Int32) (σ : St) : Option St :=
  ax_bindV (J_CArrays_fill_29 N a1 σ) (fun σ1 =>
  some σ1)
set_option maxHeartbeats 1000000 in
theorem c_Screen_paintAll {N : Nat} {g : ax_G} {a1 : Int32} {σ : St} {s9 : St} (hJ : J_Screen_paintAll N a1 σ = some s9) : ax_CV μ_Screen_paintAll g y_Screen_paintAll (wC g) [.ref (g.2.1 28), .int a1] σ (ax_eqV s9) := by
  refine ax_CV.of (plainFor_of_name rfl) rfl (Nat.le_of_ble_eq_true rfl) (fun x A _ => ?_)
  show AW x μ_Screen_paintAll g A (wC g) (0, 0) (ax_QV x μ_Screen_paintAll g A (wC g) (ax_eqV s9)) 0 [(0, .ref (g.2.1 28)), (1, .int a1)] [] σ
  rw [J_Screen_paintAll] at hJ
  refine aw_aload_n (n := 1) d_Screen_paintAll_0 rfl rfl 0 rfl ?_
  refine gf_Screen_dots (n := 4) d_Screen_paintAll_1 rfl kf_Screen_9 ?_
  refine aw_iload_n (n := 5) d_Screen_paintAll_4 rfl rfl 1 rfl ?_
  obtain ⟨σ1, hc1, hJ⟩ := ax_bindVE hJ
  refine aw_callSv (n := 8) (c_CArrays_fill_29 hc1) Y_CArrays_fill_29 km_Screen_19 (by decide) (by decide) rfl rfl (Nat.le_of_ble_eq_true rfl) d_Screen_paintAll_5 rfl (fun s9 hp => ?_)
  subst hp
  exact aw_vret d_Screen_paintAll_8 rfl (ax_retV hJ)
abbrev b_Screen_paint : ByteArray := prog_7_method_4_code
def y_Screen_paint : MethodName := ⟨"DotConsole$Screen", "paint", "(III)V"⟩
theorem d_Screen_paint_0 : decode b_Screen_paint 0 = .ok (.iload_n 1, 1) := by decide +kernel
theorem d_Screen_paint_1 : decode b_Screen_paint 1 = .ok (.iload_n 2, 1) := by decide +kernel
theorem d_Screen_paint_2 : decode b_Screen_paint 2 = .ok (.invokestatic 15, 3) := by decide +kernel
theorem d_Screen_paint_5 : decode b_Screen_paint 5 = .ok (.ifCond .eq 15, 3) := by decide +kernel
theorem d_Screen_paint_8 : decode b_Screen_paint 8 = .ok (.aload_n 0, 1) := by decide +kernel
theorem d_Screen_paint_9 : decode b_Screen_paint 9 = .ok (.getfield 9, 3) := by decide +kernel
theorem d_Screen_paint_12 : decode b_Screen_paint 12 = .ok (.iload_n 2, 1) := by decide +kernel
theorem d_Screen_paint_13 : decode b_Screen_paint 13 = .ok (.bipush 16, 2) := by decide +kernel
theorem d_Screen_paint_15 : decode b_Screen_paint 15 = .ok (.imul, 1) := by decide +kernel
theorem d_Screen_paint_16 : decode b_Screen_paint 16 = .ok (.iload_n 1, 1) := by decide +kernel
theorem d_Screen_paint_17 : decode b_Screen_paint 17 = .ok (.iadd, 1) := by decide +kernel
theorem d_Screen_paint_18 : decode b_Screen_paint 18 = .ok (.iload_n 3, 1) := by decide +kernel
theorem d_Screen_paint_19 : decode b_Screen_paint 19 = .ok (.iastore, 1) := by decide +kernel
theorem d_Screen_paint_20 : decode b_Screen_paint 20 = .ok (.return_, 1) := by decide +kernel
def μ_Screen_paint : ax_M := (b_Screen_paint, 4, "DotConsole$Screen", none, 1, 21, 0, 0)
theorem Y_Screen_paint : ax_YV μ_Screen_paint y_Screen_paint 3 := ⟨⟨ax_mem (by decide +kernel) rfl, ax_mem (by decide +kernel) rfl, by decide, by decide, by decide +kernel⟩, ax_mem (by decide +kernel) rfl, ax_mem (by decide +kernel) rfl⟩
def J_Screen_paint (N : Nat) (a1 : Int32) (a2 : Int32) (a3 : Int32) (σ : St) : Option St :=
  ax_bind (J_Screen_isInside N a1 a2 σ) (fun r1 σ1 =>
  (if r1 = 0 then
  some σ1
  else (if (inB ((a2 * 16) + a1) 256) = true then ax_let (sA σ1 22 ((a2 * 16) + a1).toNatClampNeg a3) (fun σ2 =>
  some σ2) else none)))
set_option maxHeartbeats 1000000 in
theorem c_Screen_paint {N : Nat} {g : ax_G} {a1 : Int32} {a2 : Int32} {a3 : Int32} {σ : St} {s9 : St} (hJ : J_Screen_paint N a1 a2 a3 σ = some s9) : ax_CV μ_Screen_paint g y_Screen_paint (wC g) [.ref (g.2.1 28), .int a1, .int a2, .int a3] σ (ax_eqV s9) := by
  refine ax_CV.of (plainFor_of_name rfl) rfl (Nat.le_of_ble_eq_true rfl) (fun x A _ => ?_)
  show AW x μ_Screen_paint g A (wC g) (0, 0) (ax_QV x μ_Screen_paint g A (wC g) (ax_eqV s9)) 0 [(0, .ref (g.2.1 28)), (1, .int a1), (2, .int a2), (3, .int a3)] [] σ
  rw [J_Screen_paint] at hJ
  refine aw_iload_n (n := 1) d_Screen_paint_0 rfl rfl 1 rfl ?_
  refine aw_iload_n (n := 2) d_Screen_paint_1 rfl rfl 2 rfl ?_
  obtain ⟨r1, σ1, hc1, hJ⟩ := ax_bindE hJ
  refine aw_callSi (n := 5) (c_Screen_isInside hc1) Y_Screen_isInside km_Screen_15 (by decide) (by decide) rfl rfl (Nat.le_of_ble_eq_true rfl) d_Screen_paint_2 rfl (fun r9 s9 hp => ?_)
  obtain ⟨rfl, rfl, hb1⟩ := hp
  refine aw_if_eq (n := 8) (t := 20) d_Screen_paint_5 rfl (by decide) (fun c1 => ?_) (fun c1 => ?_)
  · rw [if_pos c1] at hJ
    exact aw_vret d_Screen_paint_20 rfl (ax_retV hJ)
  · rw [if_neg c1] at hJ
    refine aw_aload_n (n := 9) d_Screen_paint_8 rfl rfl 0 rfl ?_
    refine gf_Screen_dots (n := 12) d_Screen_paint_9 rfl kf_Screen_9 ?_
    refine aw_iload_n (n := 13) d_Screen_paint_12 rfl rfl 2 rfl ?_
    refine aw_bipush (n := 15) (v := 16) d_Screen_paint_13 rfl (by decide) ?_
    refine aw_imul (n := 16) d_Screen_paint_15 rfl ?_
    refine aw_iload_n (n := 17) d_Screen_paint_16 rfl rfl 1 rfl ?_
    refine aw_iadd (n := 18) d_Screen_paint_17 rfl ?_
    refine aw_iload_n (n := 19) d_Screen_paint_18 rfl rfl 3 rfl ?_
    obtain ⟨h1, hJ⟩ := ax_need hJ
    refine as_29 (n := 20) d_Screen_paint_19 rfl h1 ?_
    obtain ⟨σ2, eσ2, hJ⟩ := ax_letE hJ
    refine aw_let eσ2 ?_
    exact aw_vret d_Screen_paint_20 rfl (ax_retV hJ)
abbrev b_Math_abs : ByteArray := prog_12_method_59_code
def y_Math_abs : MethodName := ⟨"java/lang/Math", "abs", "(I)I"⟩
theorem d_Math_abs_0 : decode b_Math_abs 0 = .ok (.iload_n 0, 1) := by decide +kernel
theorem d_Math_abs_1 : decode b_Math_abs 1 = .ok (.ifCond .ge 8, 3) := by decide +kernel
theorem d_Math_abs_4 : decode b_Math_abs 4 = .ok (.iload_n 0, 1) := by decide +kernel
theorem d_Math_abs_5 : decode b_Math_abs 5 = .ok (.ineg, 1) := by decide +kernel
theorem d_Math_abs_6 : decode b_Math_abs 6 = .ok (.goto 4, 3) := by decide +kernel
theorem d_Math_abs_9 : decode b_Math_abs 9 = .ok (.iload_n 0, 1) := by decide +kernel
theorem d_Math_abs_10 : decode b_Math_abs 10 = .ok (.ireturn, 1) := by decide +kernel
def μ_CMath_abs : ax_M := (b_Math_abs, 1, "java/lang/Math", (some .int), 0, 0, 0, 0)
theorem Y_CMath_abs : ax_YS μ_CMath_abs y_Math_abs 1 := ⟨⟨ax_mem (by decide +kernel) rfl, ax_mem (by decide +kernel) rfl, by decide, by decide, by decide +kernel⟩, ax_mem (by decide +kernel) rfl⟩
def J_CMath_abs (N : Nat) (a0 : Int32) (σ : St) : Option (Int32 × St) :=
  (if 0 ≤ a0 then
  some (a0, σ)
  else some ((-a0), σ))
set_option maxHeartbeats 1000000 in
theorem c_CMath_abs {N : Nat} {g : ax_G} {a0 : Int32} {σ : St} {r9 : Int32} {s9 : St} (hJ : J_CMath_abs N a0 σ = some (r9, s9)) : ax_CI μ_CMath_abs g y_Math_abs (wC g) [.int a0] σ (ax_eqI r9 s9) := by
  refine ax_CI.of (by decide +kernel) rfl (Nat.le_of_ble_eq_true rfl) (fun x A _ => ?_)
  show AW x μ_CMath_abs g A (wC g) (0, 0) (ax_QI x μ_CMath_abs g A (wC g) (ax_eqI r9 s9)) 0 [(0, .int a0)] [] σ
  rw [J_CMath_abs] at hJ
  refine aw_iload_n (n := 1) d_Math_abs_0 rfl rfl 0 rfl ?_
  refine aw_if_ge (n := 4) (t := 9) d_Math_abs_1 rfl (by decide) (fun c1 => ?_) (fun c1 => ?_)
  · rw [if_pos c1] at hJ
    refine aw_iload_n (n := 10) d_Math_abs_9 rfl rfl 0 rfl ?_
    exact aw_iret d_Math_abs_10 rfl (ax_ret hJ)
  · rw [if_neg c1] at hJ
    refine aw_iload_n (n := 5) d_Math_abs_4 rfl rfl 0 rfl ?_
    refine aw_ineg (n := 6) d_Math_abs_5 rfl ?_
    refine aw_goto (t := 10) d_Math_abs_6 (by decide) ?_
    exact aw_iret d_Math_abs_10 rfl (ax_ret hJ)
abbrev b_Math_floorDiv : ByteArray := prog_12_method_47_code
def y_Math_floorDiv : MethodName := ⟨"java/lang/Math", "floorDiv", "(II)I"⟩
theorem d_Math_floorDiv_0 : decode b_Math_floorDiv 0 = .ok (.iload_n 0, 1) := by decide +kernel
theorem d_Math_floorDiv_1 : decode b_Math_floorDiv 1 = .ok (.iload_n 1, 1) := by decide +kernel
theorem d_Math_floorDiv_2 : decode b_Math_floorDiv 2 = .ok (.idiv, 1) := by decide +kernel
theorem d_Math_floorDiv_3 : decode b_Math_floorDiv 3 = .ok (.istore_n 2, 1) := by decide +kernel
theorem d_Math_floorDiv_4 : decode b_Math_floorDiv 4 = .ok (.iload_n 0, 1) := by decide +kernel
theorem d_Math_floorDiv_5 : decode b_Math_floorDiv 5 = .ok (.iload_n 1, 1) := by decide +kernel
theorem d_Math_floorDiv_6 : decode b_Math_floorDiv 6 = .ok (.ixor, 1) := by decide +kernel
theorem d_Math_floorDiv_7 : decode b_Math_floorDiv 7 = .ok (.ifCond .ge 14, 3) := by decide +kernel
theorem d_Math_floorDiv_10 : decode b_Math_floorDiv 10 = .ok (.iload_n 2, 1) := by decide +kernel
theorem d_Math_floorDiv_11 : decode b_Math_floorDiv 11 = .ok (.iload_n 1, 1) := by decide +kernel
theorem d_Math_floorDiv_12 : decode b_Math_floorDiv 12 = .ok (.imul, 1) := by decide +kernel
theorem d_Math_floorDiv_13 : decode b_Math_floorDiv 13 = .ok (.iload_n 0, 1) := by decide +kernel
theorem d_Math_floorDiv_14 : decode b_Math_floorDiv 14 = .ok (.if_icmp .eq 7, 3) := by decide +kernel
theorem d_Math_floorDiv_17 : decode b_Math_floorDiv 17 = .ok (.iload_n 2, 1) := by decide +kernel
theorem d_Math_floorDiv_18 : decode b_Math_floorDiv 18 = .ok (.iconst 1, 1) := by decide +kernel
theorem d_Math_floorDiv_19 : decode b_Math_floorDiv 19 = .ok (.isub, 1) := by decide +kernel
theorem d_Math_floorDiv_20 : decode b_Math_floorDiv 20 = .ok (.ireturn, 1) := by decide +kernel
theorem d_Math_floorDiv_21 : decode b_Math_floorDiv 21 = .ok (.iload_n 2, 1) := by decide +kernel
theorem d_Math_floorDiv_22 : decode b_Math_floorDiv 22 = .ok (.ireturn, 1) := by decide +kernel
def μ_CMath_floorDiv : ax_M := (b_Math_floorDiv, 3, "java/lang/Math", (some .int), 0, 0, 0, 0)
theorem Y_CMath_floorDiv : ax_YS μ_CMath_floorDiv y_Math_floorDiv 2 := ⟨⟨ax_mem (by decide +kernel) rfl, ax_mem (by decide +kernel) rfl, by decide, by decide, by decide +kernel⟩, ax_mem (by decide +kernel) rfl⟩
def J_CMath_floorDiv (N : Nat) (a0 : Int32) (a1 : Int32) (σ : St) : Option (Int32 × St) :=
  (if a1 = 0 then none else ax_let ((a0 / a1) : Int32) (fun v1 =>
  (if 0 ≤ (a0 ^^^ a1) then
  some (v1, σ)
  else (if (v1 * a1) = a0 then
  some (v1, σ)
  else some ((v1 - 1), σ)))))
set_option maxHeartbeats 1000000 in
theorem c_CMath_floorDiv {N : Nat} {g : ax_G} {a0 : Int32} {a1 : Int32} {σ : St} {r9 : Int32} {s9 : St} (hJ : J_CMath_floorDiv N a0 a1 σ = some (r9, s9)) : ax_CI μ_CMath_floorDiv g y_Math_floorDiv (wC g) [.int a0, .int a1] σ (ax_eqI r9 s9) := by
  refine ax_CI.of (by decide +kernel) rfl (Nat.le_of_ble_eq_true rfl) (fun x A _ => ?_)
  show AW x μ_CMath_floorDiv g A (wC g) (0, 0) (ax_QI x μ_CMath_floorDiv g A (wC g) (ax_eqI r9 s9)) 0 [(0, .int a0), (1, .int a1)] [] σ
  rw [J_CMath_floorDiv] at hJ
  refine aw_iload_n (n := 1) d_Math_floorDiv_0 rfl rfl 0 rfl ?_
  refine aw_iload_n (n := 2) d_Math_floorDiv_1 rfl rfl 1 rfl ?_
  obtain ⟨h1, hJ⟩ := ax_need0 hJ
  refine aw_idiv (n := 3) d_Math_floorDiv_2 rfl h1 ?_
  obtain ⟨v1, ev1, hJ⟩ := ax_letE hJ
  refine aw_top ev1 ?_
  refine aw_istore_n (n := 4) d_Math_floorDiv_3 rfl rfl (by decide) rfl ?_
  refine aw_iload_n (n := 5) d_Math_floorDiv_4 rfl rfl 1 rfl ?_
  refine aw_iload_n (n := 6) d_Math_floorDiv_5 rfl rfl 2 rfl ?_
  refine aw_ixor (n := 7) d_Math_floorDiv_6 rfl ?_
  refine aw_if_ge (n := 10) (t := 21) d_Math_floorDiv_7 rfl (by decide) (fun c1 => ?_) (fun c1 => ?_)
  · rw [if_pos c1] at hJ
    refine aw_iload_n (n := 22) d_Math_floorDiv_21 rfl rfl 0 rfl ?_
    exact aw_iret d_Math_floorDiv_22 rfl (ax_ret hJ)
  · rw [if_neg c1] at hJ
    refine aw_iload_n (n := 11) d_Math_floorDiv_10 rfl rfl 0 rfl ?_
    refine aw_iload_n (n := 12) d_Math_floorDiv_11 rfl rfl 2 rfl ?_
    refine aw_imul (n := 13) d_Math_floorDiv_12 rfl ?_
    refine aw_iload_n (n := 14) d_Math_floorDiv_13 rfl rfl 1 rfl ?_
    refine aw_icmp_eq (n := 17) (t := 21) d_Math_floorDiv_14 rfl (by decide) (fun c2 => ?_) (fun c2 => ?_)
    · rw [if_pos c2] at hJ
      refine aw_iload_n (n := 22) d_Math_floorDiv_21 rfl rfl 0 rfl ?_
      exact aw_iret d_Math_floorDiv_22 rfl (ax_ret hJ)
    · rw [if_neg c2] at hJ
      refine aw_iload_n (n := 18) d_Math_floorDiv_17 rfl rfl 0 rfl ?_
      refine aw_iconst (n := 19) (v := 1) d_Math_floorDiv_18 rfl (by decide) ?_
      refine aw_isub (n := 20) d_Math_floorDiv_19 rfl ?_
      exact aw_iret d_Math_floorDiv_20 rfl (ax_ret hJ)
abbrev b_Screen_rounded : ByteArray := prog_7_method_7_code
def y_Screen_rounded : MethodName := ⟨"DotConsole$Screen", "rounded", "(II)I"⟩
theorem d_Screen_rounded_0 : decode b_Screen_rounded 0 = .ok (.iload_n 1, 1) := by decide +kernel
theorem d_Screen_rounded_1 : decode b_Screen_rounded 1 = .ok (.ifCond .ne 7, 3) := by decide +kernel
theorem d_Screen_rounded_4 : decode b_Screen_rounded 4 = .ok (.iconst 0, 1) := by decide +kernel
theorem d_Screen_rounded_5 : decode b_Screen_rounded 5 = .ok (.goto 14, 3) := by decide +kernel
theorem d_Screen_rounded_8 : decode b_Screen_rounded 8 = .ok (.iconst 2, 1) := by decide +kernel
theorem d_Screen_rounded_9 : decode b_Screen_rounded 9 = .ok (.iload_n 0, 1) := by decide +kernel
theorem d_Screen_rounded_10 : decode b_Screen_rounded 10 = .ok (.imul, 1) := by decide +kernel
theorem d_Screen_rounded_11 : decode b_Screen_rounded 11 = .ok (.iload_n 1, 1) := by decide +kernel
theorem d_Screen_rounded_12 : decode b_Screen_rounded 12 = .ok (.iadd, 1) := by decide +kernel
theorem d_Screen_rounded_13 : decode b_Screen_rounded 13 = .ok (.iconst 2, 1) := by decide +kernel
theorem d_Screen_rounded_14 : decode b_Screen_rounded 14 = .ok (.iload_n 1, 1) := by decide +kernel
theorem d_Screen_rounded_15 : decode b_Screen_rounded 15 = .ok (.imul, 1) := by decide +kernel
theorem d_Screen_rounded_16 : decode b_Screen_rounded 16 = .ok (.invokestatic 42, 3) := by decide +kernel
theorem d_Screen_rounded_19 : decode b_Screen_rounded 19 = .ok (.ireturn, 1) := by decide +kernel
def μ_Screen_rounded : ax_M := (b_Screen_rounded, 2, "DotConsole$Screen", (some .int), 1, 22, 0, 0)
theorem Y_Screen_rounded : ax_YS μ_Screen_rounded y_Screen_rounded 2 := ⟨⟨ax_mem (by decide +kernel) rfl, ax_mem (by decide +kernel) rfl, by decide, by decide, by decide +kernel⟩, ax_mem (by decide +kernel) rfl⟩
theorem km_Screen_42 : Cond.methodLink "DotConsole$Screen" 42 ⟨"java/lang/Math", "floorDiv", "(II)I"⟩ ∈ ax_T := ax_mem (by decide +kernel) rfl
def J_Screen_rounded (N : Nat) (a0 : Int32) (a1 : Int32) (σ : St) : Option (Int32 × St) :=
  (if a1 = 0 then
  some (0, σ)
  else ax_bind (J_CMath_floorDiv N ((2 * a0) + a1) (2 * a1) σ) (fun r1 σ1 =>
  some (r1, σ1)))
set_option maxHeartbeats 1000000 in
theorem c_Screen_rounded {N : Nat} {g : ax_G} {a0 : Int32} {a1 : Int32} {σ : St} {r9 : Int32} {s9 : St} (hJ : J_Screen_rounded N a0 a1 σ = some (r9, s9)) : ax_CI μ_Screen_rounded g y_Screen_rounded (wC g) [.int a0, .int a1] σ (ax_eqI r9 s9) := by
  refine ax_CI.of (plainFor_of_name rfl) rfl (Nat.le_of_ble_eq_true rfl) (fun x A _ => ?_)
  show AW x μ_Screen_rounded g A (wC g) (0, 0) (ax_QI x μ_Screen_rounded g A (wC g) (ax_eqI r9 s9)) 0 [(0, .int a0), (1, .int a1)] [] σ
  rw [J_Screen_rounded] at hJ
  refine aw_iload_n (n := 1) d_Screen_rounded_0 rfl rfl 1 rfl ?_
  refine aw_if_ne (n := 4) (t := 8) d_Screen_rounded_1 rfl (by decide) (fun c1 => ?_) (fun c1 => ?_)
  · rw [if_neg c1] at hJ
    refine aw_iconst (n := 9) (v := 2) d_Screen_rounded_8 rfl (by decide) ?_
    refine aw_iload_n (n := 10) d_Screen_rounded_9 rfl rfl 0 rfl ?_
    refine aw_imul (n := 11) d_Screen_rounded_10 rfl ?_
    refine aw_iload_n (n := 12) d_Screen_rounded_11 rfl rfl 1 rfl ?_
    refine aw_iadd (n := 13) d_Screen_rounded_12 rfl ?_
    refine aw_iconst (n := 14) (v := 2) d_Screen_rounded_13 rfl (by decide) ?_
    refine aw_iload_n (n := 15) d_Screen_rounded_14 rfl rfl 1 rfl ?_
    refine aw_imul (n := 16) d_Screen_rounded_15 rfl ?_
    obtain ⟨r1, σ1, hc1, hJ⟩ := ax_bindE hJ
    refine aw_callSi (n := 19) (c_CMath_floorDiv hc1) Y_CMath_floorDiv km_Screen_42 (by decide) (by decide) rfl rfl (Nat.le_of_ble_eq_true rfl) d_Screen_rounded_16 rfl (fun r9 s9 hp => ?_)
    obtain ⟨rfl, rfl⟩ := hp
    exact aw_iret d_Screen_rounded_19 rfl (ax_ret hJ)
  · rw [if_pos c1] at hJ
    refine aw_iconst (n := 5) (v := 0) d_Screen_rounded_4 rfl (by decide) ?_
    refine aw_goto (t := 19) d_Screen_rounded_5 (by decide) ?_
    exact aw_iret d_Screen_rounded_19 rfl (ax_ret hJ)
abbrev b_Screen_paintLine : ByteArray := prog_7_method_6_code
def y_Screen_paintLine : MethodName := ⟨"DotConsole$Screen", "paintLine", "(IIIII)V"⟩
theorem d_Screen_paintLine_0 : decode b_Screen_paintLine 0 = .ok (.iload_n 3, 1) := by decide +kernel
theorem d_Screen_paintLine_1 : decode b_Screen_paintLine 1 = .ok (.iload_n 1, 1) := by decide +kernel
theorem d_Screen_paintLine_2 : decode b_Screen_paintLine 2 = .ok (.isub, 1) := by decide +kernel
theorem d_Screen_paintLine_3 : decode b_Screen_paintLine 3 = .ok (.invokestatic 25, 3) := by decide +kernel
theorem d_Screen_paintLine_6 : decode b_Screen_paintLine 6 = .ok (.iload 4, 2) := by decide +kernel
theorem d_Screen_paintLine_8 : decode b_Screen_paintLine 8 = .ok (.iload_n 2, 1) := by decide +kernel
theorem d_Screen_paintLine_9 : decode b_Screen_paintLine 9 = .ok (.isub, 1) := by decide +kernel
theorem d_Screen_paintLine_10 : decode b_Screen_paintLine 10 = .ok (.invokestatic 25, 3) := by decide +kernel
theorem d_Screen_paintLine_13 : decode b_Screen_paintLine 13 = .ok (.invokestatic 31, 3) := by decide +kernel
theorem d_Screen_paintLine_16 : decode b_Screen_paintLine 16 = .ok (.istore 6, 2) := by decide +kernel
theorem d_Screen_paintLine_18 : decode b_Screen_paintLine 18 = .ok (.iload 6, 2) := by decide +kernel
theorem d_Screen_paintLine_20 : decode b_Screen_paintLine 20 = .ok (.bipush 40, 2) := by decide +kernel
theorem d_Screen_paintLine_22 : decode b_Screen_paintLine 22 = .ok (.if_icmp .le 4, 3) := by decide +kernel
theorem d_Screen_paintLine_25 : decode b_Screen_paintLine 25 = .ok (.return_, 1) := by decide +kernel
theorem d_Screen_paintLine_26 : decode b_Screen_paintLine 26 = .ok (.iconst 0, 1) := by decide +kernel
theorem d_Screen_paintLine_27 : decode b_Screen_paintLine 27 = .ok (.istore 7, 2) := by decide +kernel
theorem d_Screen_paintLine_29 : decode b_Screen_paintLine 29 = .ok (.iload 7, 2) := by decide +kernel
theorem d_Screen_paintLine_31 : decode b_Screen_paintLine 31 = .ok (.iload 6, 2) := by decide +kernel
theorem d_Screen_paintLine_33 : decode b_Screen_paintLine 33 = .ok (.if_icmp .gt 42, 3) := by decide +kernel
theorem d_Screen_paintLine_36 : decode b_Screen_paintLine 36 = .ok (.aload_n 0, 1) := by decide +kernel
theorem d_Screen_paintLine_37 : decode b_Screen_paintLine 37 = .ok (.iload_n 1, 1) := by decide +kernel
theorem d_Screen_paintLine_38 : decode b_Screen_paintLine 38 = .ok (.iload 7, 2) := by decide +kernel
theorem d_Screen_paintLine_40 : decode b_Screen_paintLine 40 = .ok (.iload_n 3, 1) := by decide +kernel
theorem d_Screen_paintLine_41 : decode b_Screen_paintLine 41 = .ok (.iload_n 1, 1) := by decide +kernel
theorem d_Screen_paintLine_42 : decode b_Screen_paintLine 42 = .ok (.isub, 1) := by decide +kernel
theorem d_Screen_paintLine_43 : decode b_Screen_paintLine 43 = .ok (.imul, 1) := by decide +kernel
theorem d_Screen_paintLine_44 : decode b_Screen_paintLine 44 = .ok (.iload 6, 2) := by decide +kernel
theorem d_Screen_paintLine_46 : decode b_Screen_paintLine 46 = .ok (.invokestatic 35, 3) := by decide +kernel
theorem d_Screen_paintLine_49 : decode b_Screen_paintLine 49 = .ok (.iadd, 1) := by decide +kernel
theorem d_Screen_paintLine_50 : decode b_Screen_paintLine 50 = .ok (.iload_n 2, 1) := by decide +kernel
theorem d_Screen_paintLine_51 : decode b_Screen_paintLine 51 = .ok (.iload 7, 2) := by decide +kernel
theorem d_Screen_paintLine_53 : decode b_Screen_paintLine 53 = .ok (.iload 4, 2) := by decide +kernel
theorem d_Screen_paintLine_55 : decode b_Screen_paintLine 55 = .ok (.iload_n 2, 1) := by decide +kernel
theorem d_Screen_paintLine_56 : decode b_Screen_paintLine 56 = .ok (.isub, 1) := by decide +kernel
theorem d_Screen_paintLine_57 : decode b_Screen_paintLine 57 = .ok (.imul, 1) := by decide +kernel
theorem d_Screen_paintLine_58 : decode b_Screen_paintLine 58 = .ok (.iload 6, 2) := by decide +kernel
theorem d_Screen_paintLine_60 : decode b_Screen_paintLine 60 = .ok (.invokestatic 35, 3) := by decide +kernel
theorem d_Screen_paintLine_63 : decode b_Screen_paintLine 63 = .ok (.iadd, 1) := by decide +kernel
theorem d_Screen_paintLine_64 : decode b_Screen_paintLine 64 = .ok (.iload 5, 2) := by decide +kernel
theorem d_Screen_paintLine_66 : decode b_Screen_paintLine 66 = .ok (.invokevirtual 38, 3) := by decide +kernel
theorem d_Screen_paintLine_69 : decode b_Screen_paintLine 69 = .ok (.iinc 7 1, 3) := by decide +kernel
theorem d_Screen_paintLine_72 : decode b_Screen_paintLine 72 = .ok (.goto (-43), 3) := by decide +kernel
theorem d_Screen_paintLine_75 : decode b_Screen_paintLine 75 = .ok (.return_, 1) := by decide +kernel
def μ_Screen_paintLine : ax_M := (b_Screen_paintLine, 8, "DotConsole$Screen", none, 2, 44, 0, 0)
theorem Y_Screen_paintLine : ax_YV μ_Screen_paintLine y_Screen_paintLine 5 := ⟨⟨ax_mem (by decide +kernel) rfl, ax_mem (by decide +kernel) rfl, by decide, by decide, by decide +kernel⟩, ax_mem (by decide +kernel) rfl, ax_mem (by decide +kernel) rfl⟩
theorem km_Screen_35 : Cond.methodLink "DotConsole$Screen" 35 ⟨"DotConsole$Screen", "rounded", "(II)I"⟩ ∈ ax_T := ax_mem (by decide +kernel) rfl
theorem km_Screen_38 : Cond.methodLink "DotConsole$Screen" 38 ⟨"DotConsole$Screen", "paint", "(III)V"⟩ ∈ ax_T := ax_mem (by decide +kernel) rfl
theorem km_Screen_25 : Cond.methodLink "DotConsole$Screen" 25 ⟨"java/lang/Math", "abs", "(I)I"⟩ ∈ ax_T := ax_mem (by decide +kernel) rfl
theorem km_Screen_31 : Cond.methodLink "DotConsole$Screen" 31 ⟨"java/lang/Math", "max", "(II)I"⟩ ∈ ax_T := ax_mem (by decide +kernel) rfl
def J_Screen_paintLine_29 (N : Nat) : Nat → Int32 → Int32 → Int32 → Int32 → Int32 → Int32 → Int32 → St → Option St
  | 0, _, _, _, _, _, _, _, _ => none
  | n + 1, l1, l2, l3, l4, l5, l6, l7, σ => (if l6 < l7 then
  some σ
  else ax_bind (J_Screen_rounded N (l7 * (l3 - l1)) l6 σ) (fun r4 σ4 =>
  ax_bind (J_Screen_rounded N (l7 * (l4 - l2)) l6 σ4) (fun r5 σ5 =>
  ax_bindV (J_Screen_paint N (l1 + r4) (l2 + r5) l5 σ5) (fun σ6 =>
  ax_let ((l7 + 1) : Int32) (fun v1 =>
  J_Screen_paintLine_29 N n l1 l2 l3 l4 l5 l6 v1 σ6)))))
def J_Screen_paintLine (N : Nat) (a1 : Int32) (a2 : Int32) (a3 : Int32) (a4 : Int32) (a5 : Int32) (σ : St) : Option St :=
  ax_bind (J_CMath_abs N (a3 - a1) σ) (fun r1 σ1 =>
  ax_bind (J_CMath_abs N (a4 - a2) σ1) (fun r2 σ2 =>
  ax_bind (J_CMath_max N r1 r2 σ2) (fun r3 σ3 =>
  (if r3 ≤ 40 then
  J_Screen_paintLine_29 N N a1 a2 a3 a4 a5 r3 0 σ3
  else some σ3))))
set_option maxHeartbeats 1000000 in
theorem t_Screen_paintLine_29 {N : Nat} {g : ax_G} {s9 : St} (x : ax_X) (A : Nat → Prop) : ∀ (n : Nat) (l1 : Int32) (l2 : Int32) (l3 : Int32) (l4 : Int32) (l5 : Int32) (l6 : Int32) (l7 : Int32) (σ : St), J_Screen_paintLine_29 N n l1 l2 l3 l4 l5 l6 l7 σ = some s9 → AW x μ_Screen_paintLine g A (wC g) (0, 0) (ax_QV x μ_Screen_paintLine g A (wC g) (ax_eqV s9)) 29 [(0, .ref (g.2.1 28)), (1, .int l1), (2, .int l2), (3, .int l3), (4, .int l4), (5, .int l5), (6, .int l6), (7, .int l7)] [] σ := by
  intro n
  induction n with
  | zero => intro l1 l2 l3 l4 l5 l6 l7 σ hJ; rw [J_Screen_paintLine_29] at hJ; cases hJ
  | succ n ih =>
    intro l1 l2 l3 l4 l5 l6 l7 σ hJ
    rw [J_Screen_paintLine_29] at hJ
    refine aw_iload (n := 31) d_Screen_paintLine_29 rfl 7 rfl ?_
    refine aw_iload (n := 33) d_Screen_paintLine_31 rfl 6 rfl ?_
    refine aw_icmp_gt (n := 36) (t := 75) d_Screen_paintLine_33 rfl (by decide) (fun c2 => ?_) (fun c2 => ?_)
    · rw [if_pos c2] at hJ
      exact aw_vret d_Screen_paintLine_75 rfl (ax_retV hJ)
    · rw [if_neg c2] at hJ
      refine aw_aload_n (n := 37) d_Screen_paintLine_36 rfl rfl 0 rfl ?_
      refine aw_iload_n (n := 38) d_Screen_paintLine_37 rfl rfl 1 rfl ?_
      refine aw_iload (n := 40) d_Screen_paintLine_38 rfl 7 rfl ?_
      refine aw_iload_n (n := 41) d_Screen_paintLine_40 rfl rfl 3 rfl ?_
      refine aw_iload_n (n := 42) d_Screen_paintLine_41 rfl rfl 1 rfl ?_
      refine aw_isub (n := 43) d_Screen_paintLine_42 rfl ?_
      refine aw_imul (n := 44) d_Screen_paintLine_43 rfl ?_
      refine aw_iload (n := 46) d_Screen_paintLine_44 rfl 6 rfl ?_
      obtain ⟨r4, σ4, hc4, hJ⟩ := ax_bindE hJ
      refine aw_callSi (n := 49) (c_Screen_rounded hc4) Y_Screen_rounded km_Screen_35 (by decide) (by decide) rfl rfl (Nat.le_of_ble_eq_true rfl) d_Screen_paintLine_46 rfl (fun r9 s9 hp => ?_)
      obtain ⟨rfl, rfl⟩ := hp
      refine aw_iadd (n := 50) d_Screen_paintLine_49 rfl ?_
      refine aw_iload_n (n := 51) d_Screen_paintLine_50 rfl rfl 2 rfl ?_
      refine aw_iload (n := 53) d_Screen_paintLine_51 rfl 7 rfl ?_
      refine aw_iload (n := 55) d_Screen_paintLine_53 rfl 4 rfl ?_
      refine aw_iload_n (n := 56) d_Screen_paintLine_55 rfl rfl 2 rfl ?_
      refine aw_isub (n := 57) d_Screen_paintLine_56 rfl ?_
      refine aw_imul (n := 58) d_Screen_paintLine_57 rfl ?_
      refine aw_iload (n := 60) d_Screen_paintLine_58 rfl 6 rfl ?_
      obtain ⟨r5, σ5, hc5, hJ⟩ := ax_bindE hJ
      refine aw_callSi (n := 63) (c_Screen_rounded hc5) Y_Screen_rounded km_Screen_35 (by decide) (by decide) rfl rfl (Nat.le_of_ble_eq_true rfl) d_Screen_paintLine_60 rfl (fun r9 s9 hp => ?_)
      obtain ⟨rfl, rfl⟩ := hp
      refine aw_iadd (n := 64) d_Screen_paintLine_63 rfl ?_
      refine aw_iload (n := 66) d_Screen_paintLine_64 rfl 5 rfl ?_
      obtain ⟨σ6, hc6, hJ⟩ := ax_bindVE hJ
      refine aw_callVv (n := 69) (c_Screen_paint hc6) 28 rfl rfl Y_Screen_paint km_Screen_38 (by decide) (by decide) rfl rfl (Nat.le_of_ble_eq_true rfl) d_Screen_paintLine_66 rfl (fun s9 hp => ?_)
      subst hp
      obtain ⟨v1, ev1, hJ⟩ := ax_letE hJ
      refine aw_iinc (n := 72) (j := 7) (v := v1) d_Screen_paintLine_69 rfl rfl (ev1) (by decide) rfl ?_
      refine aw_goto (t := 29) d_Screen_paintLine_72 (by decide) ?_
      refine aw_sub [1, 2, 3, 4, 5, 6, 7, 0] rfl ?_
      exact ih _ _ _ _ _ _ _ _ hJ
set_option maxHeartbeats 1000000 in
theorem c_Screen_paintLine {N : Nat} {g : ax_G} {a1 : Int32} {a2 : Int32} {a3 : Int32} {a4 : Int32} {a5 : Int32} {σ : St} {s9 : St} (hJ : J_Screen_paintLine N a1 a2 a3 a4 a5 σ = some s9) : ax_CV μ_Screen_paintLine g y_Screen_paintLine (wC g) [.ref (g.2.1 28), .int a1, .int a2, .int a3, .int a4, .int a5] σ (ax_eqV s9) := by
  refine ax_CV.of (plainFor_of_name rfl) rfl (Nat.le_of_ble_eq_true rfl) (fun x A _ => ?_)
  show AW x μ_Screen_paintLine g A (wC g) (0, 0) (ax_QV x μ_Screen_paintLine g A (wC g) (ax_eqV s9)) 0 [(0, .ref (g.2.1 28)), (1, .int a1), (2, .int a2), (3, .int a3), (4, .int a4), (5, .int a5)] [] σ
  rw [J_Screen_paintLine] at hJ
  refine aw_iload_n (n := 1) d_Screen_paintLine_0 rfl rfl 3 rfl ?_
  refine aw_iload_n (n := 2) d_Screen_paintLine_1 rfl rfl 1 rfl ?_
  refine aw_isub (n := 3) d_Screen_paintLine_2 rfl ?_
  obtain ⟨r1, σ1, hc1, hJ⟩ := ax_bindE hJ
  refine aw_callSi (n := 6) (c_CMath_abs hc1) Y_CMath_abs km_Screen_25 (by decide) (by decide) rfl rfl (Nat.le_of_ble_eq_true rfl) d_Screen_paintLine_3 rfl (fun r9 s9 hp => ?_)
  obtain ⟨rfl, rfl⟩ := hp
  refine aw_iload (n := 8) d_Screen_paintLine_6 rfl 4 rfl ?_
  refine aw_iload_n (n := 9) d_Screen_paintLine_8 rfl rfl 2 rfl ?_
  refine aw_isub (n := 10) d_Screen_paintLine_9 rfl ?_
  obtain ⟨r2, σ2, hc2, hJ⟩ := ax_bindE hJ
  refine aw_callSi (n := 13) (c_CMath_abs hc2) Y_CMath_abs km_Screen_25 (by decide) (by decide) rfl rfl (Nat.le_of_ble_eq_true rfl) d_Screen_paintLine_10 rfl (fun r9 s9 hp => ?_)
  obtain ⟨rfl, rfl⟩ := hp
  obtain ⟨r3, σ3, hc3, hJ⟩ := ax_bindE hJ
  refine aw_callSi (n := 16) (c_CMath_max hc3) Y_CMath_max km_Screen_31 (by decide) (by decide) rfl rfl (Nat.le_of_ble_eq_true rfl) d_Screen_paintLine_13 rfl (fun r9 s9 hp => ?_)
  obtain ⟨rfl, rfl⟩ := hp
  refine aw_istore (n := 18) d_Screen_paintLine_16 rfl (by decide) rfl ?_
  refine aw_iload (n := 20) d_Screen_paintLine_18 rfl 0 rfl ?_
  refine aw_bipush (n := 22) (v := 40) d_Screen_paintLine_20 rfl (by decide) ?_
  refine aw_icmp_le (n := 25) (t := 26) d_Screen_paintLine_22 rfl (by decide) (fun c1 => ?_) (fun c1 => ?_)
  · rw [if_pos c1] at hJ
    refine aw_iconst (n := 27) (v := 0) d_Screen_paintLine_26 rfl (by decide) ?_
    refine aw_istore (n := 29) d_Screen_paintLine_27 rfl (by decide) rfl ?_
    refine aw_sub [2, 3, 4, 5, 6, 7, 1, 0] rfl ?_
    exact t_Screen_paintLine_29 x A N _ _ _ _ _ _ _ _ hJ
  · rw [if_neg c1] at hJ
    exact aw_vret d_Screen_paintLine_25 rfl (ax_retV hJ)
abbrev b_Screen_paintBox : ByteArray := prog_7_method_8_code
def y_Screen_paintBox : MethodName := ⟨"DotConsole$Screen", "paintBox", "(IIIII)V"⟩
theorem d_Screen_paintBox_0 : decode b_Screen_paintBox 0 = .ok (.iload_n 1, 1) := by decide +kernel
theorem d_Screen_paintBox_1 : decode b_Screen_paintBox 1 = .ok (.iload_n 3, 1) := by decide +kernel
theorem d_Screen_paintBox_2 : decode b_Screen_paintBox 2 = .ok (.invokestatic 31, 3) := by decide +kernel
theorem d_Screen_paintBox_5 : decode b_Screen_paintBox 5 = .ok (.bipush 15, 2) := by decide +kernel
theorem d_Screen_paintBox_7 : decode b_Screen_paintBox 7 = .ok (.invokestatic 45, 3) := by decide +kernel
theorem d_Screen_paintBox_10 : decode b_Screen_paintBox 10 = .ok (.istore 6, 2) := by decide +kernel
theorem d_Screen_paintBox_12 : decode b_Screen_paintBox 12 = .ok (.iload_n 2, 1) := by decide +kernel
theorem d_Screen_paintBox_13 : decode b_Screen_paintBox 13 = .ok (.iload 4, 2) := by decide +kernel
theorem d_Screen_paintBox_15 : decode b_Screen_paintBox 15 = .ok (.invokestatic 31, 3) := by decide +kernel
theorem d_Screen_paintBox_18 : decode b_Screen_paintBox 18 = .ok (.bipush 15, 2) := by decide +kernel
theorem d_Screen_paintBox_20 : decode b_Screen_paintBox 20 = .ok (.invokestatic 45, 3) := by decide +kernel
theorem d_Screen_paintBox_23 : decode b_Screen_paintBox 23 = .ok (.istore 7, 2) := by decide +kernel
theorem d_Screen_paintBox_25 : decode b_Screen_paintBox 25 = .ok (.iload_n 2, 1) := by decide +kernel
theorem d_Screen_paintBox_26 : decode b_Screen_paintBox 26 = .ok (.iload 4, 2) := by decide +kernel
theorem d_Screen_paintBox_28 : decode b_Screen_paintBox 28 = .ok (.invokestatic 45, 3) := by decide +kernel
theorem d_Screen_paintBox_31 : decode b_Screen_paintBox 31 = .ok (.iconst 0, 1) := by decide +kernel
theorem d_Screen_paintBox_32 : decode b_Screen_paintBox 32 = .ok (.invokestatic 31, 3) := by decide +kernel
theorem d_Screen_paintBox_35 : decode b_Screen_paintBox 35 = .ok (.istore 8, 2) := by decide +kernel
theorem d_Screen_paintBox_37 : decode b_Screen_paintBox 37 = .ok (.iload 8, 2) := by decide +kernel
theorem d_Screen_paintBox_39 : decode b_Screen_paintBox 39 = .ok (.iload 7, 2) := by decide +kernel
theorem d_Screen_paintBox_41 : decode b_Screen_paintBox 41 = .ok (.if_icmp .gt 43, 3) := by decide +kernel
theorem d_Screen_paintBox_44 : decode b_Screen_paintBox 44 = .ok (.iload_n 1, 1) := by decide +kernel
theorem d_Screen_paintBox_45 : decode b_Screen_paintBox 45 = .ok (.iload_n 3, 1) := by decide +kernel
theorem d_Screen_paintBox_46 : decode b_Screen_paintBox 46 = .ok (.invokestatic 45, 3) := by decide +kernel
theorem d_Screen_paintBox_49 : decode b_Screen_paintBox 49 = .ok (.iconst 0, 1) := by decide +kernel
theorem d_Screen_paintBox_50 : decode b_Screen_paintBox 50 = .ok (.invokestatic 31, 3) := by decide +kernel
theorem d_Screen_paintBox_53 : decode b_Screen_paintBox 53 = .ok (.istore 9, 2) := by decide +kernel
theorem d_Screen_paintBox_55 : decode b_Screen_paintBox 55 = .ok (.iload 9, 2) := by decide +kernel
theorem d_Screen_paintBox_57 : decode b_Screen_paintBox 57 = .ok (.iload 6, 2) := by decide +kernel
theorem d_Screen_paintBox_59 : decode b_Screen_paintBox 59 = .ok (.if_icmp .gt 19, 3) := by decide +kernel
theorem d_Screen_paintBox_62 : decode b_Screen_paintBox 62 = .ok (.aload_n 0, 1) := by decide +kernel
theorem d_Screen_paintBox_63 : decode b_Screen_paintBox 63 = .ok (.iload 9, 2) := by decide +kernel
theorem d_Screen_paintBox_65 : decode b_Screen_paintBox 65 = .ok (.iload 8, 2) := by decide +kernel
theorem d_Screen_paintBox_67 : decode b_Screen_paintBox 67 = .ok (.iload 5, 2) := by decide +kernel
theorem d_Screen_paintBox_69 : decode b_Screen_paintBox 69 = .ok (.invokevirtual 38, 3) := by decide +kernel
theorem d_Screen_paintBox_72 : decode b_Screen_paintBox 72 = .ok (.iinc 9 1, 3) := by decide +kernel
theorem d_Screen_paintBox_75 : decode b_Screen_paintBox 75 = .ok (.goto (-20), 3) := by decide +kernel
theorem d_Screen_paintBox_78 : decode b_Screen_paintBox 78 = .ok (.iinc 8 1, 3) := by decide +kernel
theorem d_Screen_paintBox_81 : decode b_Screen_paintBox 81 = .ok (.goto (-44), 3) := by decide +kernel
theorem d_Screen_paintBox_84 : decode b_Screen_paintBox 84 = .ok (.return_, 1) := by decide +kernel
def μ_Screen_paintBox : ax_M := (b_Screen_paintBox, 10, "DotConsole$Screen", none, 2, 44, 0, 0)
theorem Y_Screen_paintBox : ax_YV μ_Screen_paintBox y_Screen_paintBox 5 := ⟨⟨ax_mem (by decide +kernel) rfl, ax_mem (by decide +kernel) rfl, by decide, by decide, by decide +kernel⟩, ax_mem (by decide +kernel) rfl, ax_mem (by decide +kernel) rfl⟩
theorem km_Screen_45 : Cond.methodLink "DotConsole$Screen" 45 ⟨"java/lang/Math", "min", "(II)I"⟩ ∈ ax_T := ax_mem (by decide +kernel) rfl
def J_Screen_paintBox_55 (N : Nat) (K37 : Int32 → Int32 → Int32 → Int32 → Int32 → Int32 → St → Option St) : Nat → Int32 → Int32 → Int32 → Int32 → Int32 → Int32 → Int32 → St → Option St
  | 0, _, _, _, _, _, _, _, _ => none
  | n + 1, l1, l3, l5, l6, l7, l8, l9, σ => (if l6 < l9 then
  ax_let ((l8 + 1) : Int32) (fun v1 =>
  K37 l1 l3 l5 l6 l7 v1 σ)
  else ax_bindV (J_Screen_paint N l9 l8 l5 σ) (fun σ9 =>
  ax_let ((l9 + 1) : Int32) (fun v2 =>
  J_Screen_paintBox_55 N K37 n l1 l3 l5 l6 l7 l8 v2 σ9)))
def J_Screen_paintBox_37 (N : Nat) : Nat → Int32 → Int32 → Int32 → Int32 → Int32 → Int32 → St → Option St
  | 0, _, _, _, _, _, _, _ => none
  | n + 1, l1, l3, l5, l6, l7, l8, σ => (if l7 < l8 then
  some σ
  else ax_bind (J_CMath_min N l1 l3 σ) (fun r7 σ7 =>
  ax_bind (J_CMath_max N r7 0 σ7) (fun r8 σ8 =>
  J_Screen_paintBox_55 N (fun l1 l3 l5 l6 l7 l8 σ => J_Screen_paintBox_37 N n l1 l3 l5 l6 l7 l8 σ) N l1 l3 l5 l6 l7 l8 r8 σ8)))
def J_Screen_paintBox (N : Nat) (a1 : Int32) (a2 : Int32) (a3 : Int32) (a4 : Int32) (a5 : Int32) (σ : St) : Option St :=
  ax_bind (J_CMath_max N a1 a3 σ) (fun r1 σ1 =>
  ax_bind (J_CMath_min N r1 15 σ1) (fun r2 σ2 =>
  ax_bind (J_CMath_max N a2 a4 σ2) (fun r3 σ3 =>
  ax_bind (J_CMath_min N r3 15 σ3) (fun r4 σ4 =>
  ax_bind (J_CMath_min N a2 a4 σ4) (fun r5 σ5 =>
  ax_bind (J_CMath_max N r5 0 σ5) (fun r6 σ6 =>
  J_Screen_paintBox_37 N N a1 a3 a5 r2 r4 r6 σ6))))))
set_option maxHeartbeats 1000000 in
theorem t_Screen_paintBox_55 {N : Nat} {g : ax_G} {s9 : St} (x : ax_X) (A : Nat → Prop) {K37 : Int32 → Int32 → Int32 → Int32 → Int32 → Int32 → St → Option St} (hK37 : ∀ (l1 : Int32) (l3 : Int32) (l5 : Int32) (l6 : Int32) (l7 : Int32) (l8 : Int32) (σ : St), K37 l1 l3 l5 l6 l7 l8 σ = some s9 → AW x μ_Screen_paintBox g A (wC g) (0, 0) (ax_QV x μ_Screen_paintBox g A (wC g) (ax_eqV s9)) 37 [(0, .ref (g.2.1 28)), (1, .int l1), (3, .int l3), (5, .int l5), (6, .int l6), (7, .int l7), (8, .int l8)] [] σ) : ∀ (n : Nat) (l1 : Int32) (l3 : Int32) (l5 : Int32) (l6 : Int32) (l7 : Int32) (l8 : Int32) (l9 : Int32) (σ : St), J_Screen_paintBox_55 N K37 n l1 l3 l5 l6 l7 l8 l9 σ = some s9 → AW x μ_Screen_paintBox g A (wC g) (0, 0) (ax_QV x μ_Screen_paintBox g A (wC g) (ax_eqV s9)) 55 [(0, .ref (g.2.1 28)), (1, .int l1), (3, .int l3), (5, .int l5), (6, .int l6), (7, .int l7), (8, .int l8), (9, .int l9)] [] σ := by
  intro n
  induction n with
  | zero => intro l1 l3 l5 l6 l7 l8 l9 σ hJ; rw [J_Screen_paintBox_55] at hJ; cases hJ
  | succ n ih =>
    intro l1 l3 l5 l6 l7 l8 l9 σ hJ
    rw [J_Screen_paintBox_55] at hJ
    refine aw_iload (n := 57) d_Screen_paintBox_55 rfl 7 rfl ?_
    refine aw_iload (n := 59) d_Screen_paintBox_57 rfl 4 rfl ?_
    refine aw_icmp_gt (n := 62) (t := 78) d_Screen_paintBox_59 rfl (by decide) (fun c2 => ?_) (fun c2 => ?_)
    · rw [if_pos c2] at hJ
      obtain ⟨v1, ev1, hJ⟩ := ax_letE hJ
      refine aw_iinc (n := 81) (j := 6) (v := v1) d_Screen_paintBox_78 rfl rfl (ev1) (by decide) rfl ?_
      refine aw_goto (t := 37) d_Screen_paintBox_81 (by decide) ?_
      refine aw_sub [1, 2, 3, 4, 5, 6, 0] rfl ?_
      exact hK37 _ _ _ _ _ _ _ hJ
    · rw [if_neg c2] at hJ
      refine aw_aload_n (n := 63) d_Screen_paintBox_62 rfl rfl 0 rfl ?_
      refine aw_iload (n := 65) d_Screen_paintBox_63 rfl 7 rfl ?_
      refine aw_iload (n := 67) d_Screen_paintBox_65 rfl 6 rfl ?_
      refine aw_iload (n := 69) d_Screen_paintBox_67 rfl 3 rfl ?_
      obtain ⟨σ9, hc9, hJ⟩ := ax_bindVE hJ
      refine aw_callVv (n := 72) (c_Screen_paint hc9) 28 rfl rfl Y_Screen_paint km_Screen_38 (by decide) (by decide) rfl rfl (Nat.le_of_ble_eq_true rfl) d_Screen_paintBox_69 rfl (fun s9 hp => ?_)
      subst hp
      obtain ⟨v2, ev2, hJ⟩ := ax_letE hJ
      refine aw_iinc (n := 75) (j := 7) (v := v2) d_Screen_paintBox_72 rfl rfl (ev2) (by decide) rfl ?_
      refine aw_goto (t := 55) d_Screen_paintBox_75 (by decide) ?_
      refine aw_sub [1, 2, 3, 4, 5, 6, 7, 0] rfl ?_
      exact ih _ _ _ _ _ _ _ _ hJ
set_option maxHeartbeats 1000000 in
theorem t_Screen_paintBox_37 {N : Nat} {g : ax_G} {s9 : St} (x : ax_X) (A : Nat → Prop) : ∀ (n : Nat) (l1 : Int32) (l3 : Int32) (l5 : Int32) (l6 : Int32) (l7 : Int32) (l8 : Int32) (σ : St), J_Screen_paintBox_37 N n l1 l3 l5 l6 l7 l8 σ = some s9 → AW x μ_Screen_paintBox g A (wC g) (0, 0) (ax_QV x μ_Screen_paintBox g A (wC g) (ax_eqV s9)) 37 [(0, .ref (g.2.1 28)), (1, .int l1), (3, .int l3), (5, .int l5), (6, .int l6), (7, .int l7), (8, .int l8)] [] σ := by
  intro n
  induction n with
  | zero => intro l1 l3 l5 l6 l7 l8 σ hJ; rw [J_Screen_paintBox_37] at hJ; cases hJ
  | succ n ih =>
    intro l1 l3 l5 l6 l7 l8 σ hJ
    rw [J_Screen_paintBox_37] at hJ
    refine aw_iload (n := 39) d_Screen_paintBox_37 rfl 6 rfl ?_
    refine aw_iload (n := 41) d_Screen_paintBox_39 rfl 5 rfl ?_
    refine aw_icmp_gt (n := 44) (t := 84) d_Screen_paintBox_41 rfl (by decide) (fun c1 => ?_) (fun c1 => ?_)
    · rw [if_pos c1] at hJ
      exact aw_vret d_Screen_paintBox_84 rfl (ax_retV hJ)
    · rw [if_neg c1] at hJ
      refine aw_iload_n (n := 45) d_Screen_paintBox_44 rfl rfl 1 rfl ?_
      refine aw_iload_n (n := 46) d_Screen_paintBox_45 rfl rfl 2 rfl ?_
      obtain ⟨r7, σ7, hc7, hJ⟩ := ax_bindE hJ
      refine aw_callSi (n := 49) (c_CMath_min hc7) Y_CMath_min km_Screen_45 (by decide) (by decide) rfl rfl (Nat.le_of_ble_eq_true rfl) d_Screen_paintBox_46 rfl (fun r9 s9 hp => ?_)
      obtain ⟨rfl, rfl⟩ := hp
      refine aw_iconst (n := 50) (v := 0) d_Screen_paintBox_49 rfl (by decide) ?_
      obtain ⟨r8, σ8, hc8, hJ⟩ := ax_bindE hJ
      refine aw_callSi (n := 53) (c_CMath_max hc8) Y_CMath_max km_Screen_31 (by decide) (by decide) rfl rfl (Nat.le_of_ble_eq_true rfl) d_Screen_paintBox_50 rfl (fun r9 s9 hp => ?_)
      obtain ⟨rfl, rfl⟩ := hp
      refine aw_istore (n := 55) d_Screen_paintBox_53 rfl (by decide) rfl ?_
      refine aw_sub [1, 2, 3, 4, 5, 6, 7, 0] rfl ?_
      exact t_Screen_paintBox_55 x A ih N _ _ _ _ _ _ _ _ hJ
set_option maxHeartbeats 1000000 in
theorem c_Screen_paintBox {N : Nat} {g : ax_G} {a1 : Int32} {a2 : Int32} {a3 : Int32} {a4 : Int32} {a5 : Int32} {σ : St} {s9 : St} (hJ : J_Screen_paintBox N a1 a2 a3 a4 a5 σ = some s9) : ax_CV μ_Screen_paintBox g y_Screen_paintBox (wC g) [.ref (g.2.1 28), .int a1, .int a2, .int a3, .int a4, .int a5] σ (ax_eqV s9) := by
  refine ax_CV.of (plainFor_of_name rfl) rfl (Nat.le_of_ble_eq_true rfl) (fun x A _ => ?_)
  show AW x μ_Screen_paintBox g A (wC g) (0, 0) (ax_QV x μ_Screen_paintBox g A (wC g) (ax_eqV s9)) 0 [(0, .ref (g.2.1 28)), (1, .int a1), (2, .int a2), (3, .int a3), (4, .int a4), (5, .int a5)] [] σ
  rw [J_Screen_paintBox] at hJ
  refine aw_iload_n (n := 1) d_Screen_paintBox_0 rfl rfl 1 rfl ?_
  refine aw_iload_n (n := 2) d_Screen_paintBox_1 rfl rfl 3 rfl ?_
  obtain ⟨r1, σ1, hc1, hJ⟩ := ax_bindE hJ
  refine aw_callSi (n := 5) (c_CMath_max hc1) Y_CMath_max km_Screen_31 (by decide) (by decide) rfl rfl (Nat.le_of_ble_eq_true rfl) d_Screen_paintBox_2 rfl (fun r9 s9 hp => ?_)
  obtain ⟨rfl, rfl⟩ := hp
  refine aw_bipush (n := 7) (v := 15) d_Screen_paintBox_5 rfl (by decide) ?_
  obtain ⟨r2, σ2, hc2, hJ⟩ := ax_bindE hJ
  refine aw_callSi (n := 10) (c_CMath_min hc2) Y_CMath_min km_Screen_45 (by decide) (by decide) rfl rfl (Nat.le_of_ble_eq_true rfl) d_Screen_paintBox_7 rfl (fun r9 s9 hp => ?_)
  obtain ⟨rfl, rfl⟩ := hp
  refine aw_istore (n := 12) d_Screen_paintBox_10 rfl (by decide) rfl ?_
  refine aw_iload_n (n := 13) d_Screen_paintBox_12 rfl rfl 3 rfl ?_
  refine aw_iload (n := 15) d_Screen_paintBox_13 rfl 5 rfl ?_
  obtain ⟨r3, σ3, hc3, hJ⟩ := ax_bindE hJ
  refine aw_callSi (n := 18) (c_CMath_max hc3) Y_CMath_max km_Screen_31 (by decide) (by decide) rfl rfl (Nat.le_of_ble_eq_true rfl) d_Screen_paintBox_15 rfl (fun r9 s9 hp => ?_)
  obtain ⟨rfl, rfl⟩ := hp
  refine aw_bipush (n := 20) (v := 15) d_Screen_paintBox_18 rfl (by decide) ?_
  obtain ⟨r4, σ4, hc4, hJ⟩ := ax_bindE hJ
  refine aw_callSi (n := 23) (c_CMath_min hc4) Y_CMath_min km_Screen_45 (by decide) (by decide) rfl rfl (Nat.le_of_ble_eq_true rfl) d_Screen_paintBox_20 rfl (fun r9 s9 hp => ?_)
  obtain ⟨rfl, rfl⟩ := hp
  refine aw_istore (n := 25) d_Screen_paintBox_23 rfl (by decide) rfl ?_
  refine aw_iload_n (n := 26) d_Screen_paintBox_25 rfl rfl 4 rfl ?_
  refine aw_iload (n := 28) d_Screen_paintBox_26 rfl 6 rfl ?_
  obtain ⟨r5, σ5, hc5, hJ⟩ := ax_bindE hJ
  refine aw_callSi (n := 31) (c_CMath_min hc5) Y_CMath_min km_Screen_45 (by decide) (by decide) rfl rfl (Nat.le_of_ble_eq_true rfl) d_Screen_paintBox_28 rfl (fun r9 s9 hp => ?_)
  obtain ⟨rfl, rfl⟩ := hp
  refine aw_iconst (n := 32) (v := 0) d_Screen_paintBox_31 rfl (by decide) ?_
  obtain ⟨r6, σ6, hc6, hJ⟩ := ax_bindE hJ
  refine aw_callSi (n := 35) (c_CMath_max hc6) Y_CMath_max km_Screen_31 (by decide) (by decide) rfl rfl (Nat.le_of_ble_eq_true rfl) d_Screen_paintBox_32 rfl (fun r9 s9 hp => ?_)
  obtain ⟨rfl, rfl⟩ := hp
  refine aw_istore (n := 37) d_Screen_paintBox_35 rfl (by decide) rfl ?_
  refine aw_sub [3, 4, 6, 8, 2, 1, 0] rfl ?_
  exact t_Screen_paintBox_37 x A N _ _ _ _ _ _ _ hJ
abbrev b_Machine_draw : ByteArray := prog_3_method_7_code
def y_Machine_draw : MethodName := ⟨"DotConsole$Machine", "draw", "(I)V"⟩
theorem d_Machine_draw_0 : decode b_Machine_draw 0 = .ok (.aload_n 0, 1) := by decide +kernel
theorem d_Machine_draw_1 : decode b_Machine_draw 1 = .ok (.getfield 36, 3) := by decide +kernel
theorem d_Machine_draw_4 : decode b_Machine_draw 4 = .ok (.iconst 0, 1) := by decide +kernel
theorem d_Machine_draw_5 : decode b_Machine_draw 5 = .ok (.iaload, 1) := by decide +kernel
theorem d_Machine_draw_6 : decode b_Machine_draw 6 = .ok (.invokestatic 89, 3) := by decide +kernel
theorem d_Machine_draw_9 : decode b_Machine_draw 9 = .ok (.istore_n 2, 1) := by decide +kernel
theorem d_Machine_draw_10 : decode b_Machine_draw 10 = .ok (.aload_n 0, 1) := by decide +kernel
theorem d_Machine_draw_11 : decode b_Machine_draw 11 = .ok (.getfield 36, 3) := by decide +kernel
theorem d_Machine_draw_14 : decode b_Machine_draw 14 = .ok (.iconst 1, 1) := by decide +kernel
theorem d_Machine_draw_15 : decode b_Machine_draw 15 = .ok (.iaload, 1) := by decide +kernel
theorem d_Machine_draw_16 : decode b_Machine_draw 16 = .ok (.invokestatic 89, 3) := by decide +kernel
theorem d_Machine_draw_19 : decode b_Machine_draw 19 = .ok (.istore_n 3, 1) := by decide +kernel
theorem d_Machine_draw_20 : decode b_Machine_draw 20 = .ok (.aload_n 0, 1) := by decide +kernel
theorem d_Machine_draw_21 : decode b_Machine_draw 21 = .ok (.getfield 36, 3) := by decide +kernel
theorem d_Machine_draw_24 : decode b_Machine_draw 24 = .ok (.iconst 2, 1) := by decide +kernel
theorem d_Machine_draw_25 : decode b_Machine_draw 25 = .ok (.iaload, 1) := by decide +kernel
theorem d_Machine_draw_26 : decode b_Machine_draw 26 = .ok (.invokestatic 89, 3) := by decide +kernel
theorem d_Machine_draw_29 : decode b_Machine_draw 29 = .ok (.istore 4, 2) := by decide +kernel
theorem d_Machine_draw_31 : decode b_Machine_draw 31 = .ok (.aload_n 0, 1) := by decide +kernel
theorem d_Machine_draw_32 : decode b_Machine_draw 32 = .ok (.getfield 36, 3) := by decide +kernel
theorem d_Machine_draw_35 : decode b_Machine_draw 35 = .ok (.iconst 3, 1) := by decide +kernel
theorem d_Machine_draw_36 : decode b_Machine_draw 36 = .ok (.iaload, 1) := by decide +kernel
theorem d_Machine_draw_37 : decode b_Machine_draw 37 = .ok (.invokestatic 89, 3) := by decide +kernel
theorem d_Machine_draw_40 : decode b_Machine_draw 40 = .ok (.istore 5, 2) := by decide +kernel
theorem d_Machine_draw_42 : decode b_Machine_draw 42 = .ok (.iload_n 1, 1) := by decide +kernel
theorem d_Machine_draw_43 : decode b_Machine_draw 43 = .ok (.tableswitch 119 8 11 #[29, 48, 69, 94], 29) := by decide +kernel
theorem d_Machine_draw_72 : decode b_Machine_draw 72 = .ok (.aload_n 0, 1) := by decide +kernel
theorem d_Machine_draw_73 : decode b_Machine_draw 73 = .ok (.getfield 12, 3) := by decide +kernel
theorem d_Machine_draw_76 : decode b_Machine_draw 76 = .ok (.aload_n 0, 1) := by decide +kernel
theorem d_Machine_draw_77 : decode b_Machine_draw 77 = .ok (.getfield 36, 3) := by decide +kernel
theorem d_Machine_draw_80 : decode b_Machine_draw 80 = .ok (.iconst 0, 1) := by decide +kernel
theorem d_Machine_draw_81 : decode b_Machine_draw 81 = .ok (.iaload, 1) := by decide +kernel
theorem d_Machine_draw_82 : decode b_Machine_draw 82 = .ok (.invokestatic 99, 3) := by decide +kernel
theorem d_Machine_draw_85 : decode b_Machine_draw 85 = .ok (.invokevirtual 49, 3) := by decide +kernel
theorem d_Machine_draw_88 : decode b_Machine_draw 88 = .ok (.goto 74, 3) := by decide +kernel
theorem d_Machine_draw_91 : decode b_Machine_draw 91 = .ok (.aload_n 0, 1) := by decide +kernel
theorem d_Machine_draw_92 : decode b_Machine_draw 92 = .ok (.getfield 12, 3) := by decide +kernel
theorem d_Machine_draw_95 : decode b_Machine_draw 95 = .ok (.iload_n 2, 1) := by decide +kernel
theorem d_Machine_draw_96 : decode b_Machine_draw 96 = .ok (.iload_n 3, 1) := by decide +kernel
theorem d_Machine_draw_97 : decode b_Machine_draw 97 = .ok (.aload_n 0, 1) := by decide +kernel
theorem d_Machine_draw_98 : decode b_Machine_draw 98 = .ok (.getfield 36, 3) := by decide +kernel
theorem d_Machine_draw_101 : decode b_Machine_draw 101 = .ok (.iconst 2, 1) := by decide +kernel
theorem d_Machine_draw_102 : decode b_Machine_draw 102 = .ok (.iaload, 1) := by decide +kernel
theorem d_Machine_draw_103 : decode b_Machine_draw 103 = .ok (.invokestatic 99, 3) := by decide +kernel
theorem d_Machine_draw_106 : decode b_Machine_draw 106 = .ok (.invokevirtual 102, 3) := by decide +kernel
theorem d_Machine_draw_109 : decode b_Machine_draw 109 = .ok (.goto 53, 3) := by decide +kernel
theorem d_Machine_draw_112 : decode b_Machine_draw 112 = .ok (.aload_n 0, 1) := by decide +kernel
theorem d_Machine_draw_113 : decode b_Machine_draw 113 = .ok (.getfield 12, 3) := by decide +kernel
theorem d_Machine_draw_116 : decode b_Machine_draw 116 = .ok (.iload_n 2, 1) := by decide +kernel
theorem d_Machine_draw_117 : decode b_Machine_draw 117 = .ok (.iload_n 3, 1) := by decide +kernel
theorem d_Machine_draw_118 : decode b_Machine_draw 118 = .ok (.iload 4, 2) := by decide +kernel
theorem d_Machine_draw_120 : decode b_Machine_draw 120 = .ok (.iload 5, 2) := by decide +kernel
theorem d_Machine_draw_122 : decode b_Machine_draw 122 = .ok (.aload_n 0, 1) := by decide +kernel
theorem d_Machine_draw_123 : decode b_Machine_draw 123 = .ok (.getfield 36, 3) := by decide +kernel
theorem d_Machine_draw_126 : decode b_Machine_draw 126 = .ok (.iconst 4, 1) := by decide +kernel
theorem d_Machine_draw_127 : decode b_Machine_draw 127 = .ok (.iaload, 1) := by decide +kernel
theorem d_Machine_draw_128 : decode b_Machine_draw 128 = .ok (.invokestatic 99, 3) := by decide +kernel
theorem d_Machine_draw_131 : decode b_Machine_draw 131 = .ok (.invokevirtual 106, 3) := by decide +kernel
theorem d_Machine_draw_134 : decode b_Machine_draw 134 = .ok (.goto 28, 3) := by decide +kernel
theorem d_Machine_draw_137 : decode b_Machine_draw 137 = .ok (.aload_n 0, 1) := by decide +kernel
theorem d_Machine_draw_138 : decode b_Machine_draw 138 = .ok (.getfield 12, 3) := by decide +kernel
theorem d_Machine_draw_141 : decode b_Machine_draw 141 = .ok (.iload_n 2, 1) := by decide +kernel
theorem d_Machine_draw_142 : decode b_Machine_draw 142 = .ok (.iload_n 3, 1) := by decide +kernel
theorem d_Machine_draw_143 : decode b_Machine_draw 143 = .ok (.iload 4, 2) := by decide +kernel
theorem d_Machine_draw_145 : decode b_Machine_draw 145 = .ok (.iload 5, 2) := by decide +kernel
theorem d_Machine_draw_147 : decode b_Machine_draw 147 = .ok (.aload_n 0, 1) := by decide +kernel
theorem d_Machine_draw_148 : decode b_Machine_draw 148 = .ok (.getfield 36, 3) := by decide +kernel
theorem d_Machine_draw_151 : decode b_Machine_draw 151 = .ok (.iconst 4, 1) := by decide +kernel
theorem d_Machine_draw_152 : decode b_Machine_draw 152 = .ok (.iaload, 1) := by decide +kernel
theorem d_Machine_draw_153 : decode b_Machine_draw 153 = .ok (.invokestatic 99, 3) := by decide +kernel
theorem d_Machine_draw_156 : decode b_Machine_draw 156 = .ok (.invokevirtual 110, 3) := by decide +kernel
theorem d_Machine_draw_159 : decode b_Machine_draw 159 = .ok (.goto 3, 3) := by decide +kernel
theorem d_Machine_draw_162 : decode b_Machine_draw 162 = .ok (.return_, 1) := by decide +kernel
def μ_Machine_draw : ax_M := (b_Machine_draw, 6, "DotConsole$Machine", none, 3, 73, 0, 0)
theorem Y_Machine_draw : ax_YV μ_Machine_draw y_Machine_draw 1 := ⟨⟨ax_mem (by decide +kernel) rfl, ax_mem (by decide +kernel) rfl, by decide, by decide, by decide +kernel⟩, ax_mem (by decide +kernel) rfl, ax_mem (by decide +kernel) rfl⟩
theorem km_Machine_99 : Cond.methodLink "DotConsole$Machine" 99 ⟨"DotConsole$Machine", "colour", "(I)I"⟩ ∈ ax_T := ax_mem (by decide +kernel) rfl
theorem km_Machine_49 : Cond.methodLink "DotConsole$Machine" 49 ⟨"DotConsole$Screen", "paintAll", "(I)V"⟩ ∈ ax_T := ax_mem (by decide +kernel) rfl
theorem km_Machine_102 : Cond.methodLink "DotConsole$Machine" 102 ⟨"DotConsole$Screen", "paint", "(III)V"⟩ ∈ ax_T := ax_mem (by decide +kernel) rfl
theorem km_Machine_106 : Cond.methodLink "DotConsole$Machine" 106 ⟨"DotConsole$Screen", "paintLine", "(IIIII)V"⟩ ∈ ax_T := ax_mem (by decide +kernel) rfl
theorem km_Machine_110 : Cond.methodLink "DotConsole$Machine" 110 ⟨"DotConsole$Screen", "paintBox", "(IIIII)V"⟩ ∈ ax_T := ax_mem (by decide +kernel) rfl
def J_Machine_draw (N : Nat) (a1 : Int32) (σ : St) : Option St :=
  (if (inB 0 16) = true then ax_bind (J_Machine_floor N (σ.2 21 (0 : Int32).toNatClampNeg) σ) (fun r1 σ1 =>
  (if (inB 1 16) = true then ax_bind (J_Machine_floor N (σ1.2 21 (1 : Int32).toNatClampNeg) σ1) (fun r2 σ2 =>
  (if (inB 2 16) = true then ax_bind (J_Machine_floor N (σ2.2 21 (2 : Int32).toNatClampNeg) σ2) (fun r3 σ3 =>
  (if (inB 3 16) = true then ax_bind (J_Machine_floor N (σ3.2 21 (3 : Int32).toNatClampNeg) σ3) (fun r4 σ4 =>
  (if a1 = 8 then (if (inB 0 16) = true then ax_bind (J_Machine_colour N (σ4.2 21 (0 : Int32).toNatClampNeg) σ4) (fun r5 σ5 =>
  ax_bindV (J_Screen_paintAll N r5 σ5) (fun σ6 =>
  some σ6)) else none)
  else (if a1 = 9 then (if (inB 2 16) = true then ax_bind (J_Machine_colour N (σ4.2 21 (2 : Int32).toNatClampNeg) σ4) (fun r6 σ7 =>
  ax_bindV (J_Screen_paint N r1 r2 r6 σ7) (fun σ8 =>
  some σ8)) else none)
  else (if a1 = 10 then (if (inB 4 16) = true then ax_bind (J_Machine_colour N (σ4.2 21 (4 : Int32).toNatClampNeg) σ4) (fun r7 σ9 =>
  ax_bindV (J_Screen_paintLine N r1 r2 r3 r4 r7 σ9) (fun σ10 =>
  some σ10)) else none)
  else (if a1 = 11 then (if (inB 4 16) = true then ax_bind (J_Machine_colour N (σ4.2 21 (4 : Int32).toNatClampNeg) σ4) (fun r8 σ11 =>
  ax_bindV (J_Screen_paintBox N r1 r2 r3 r4 r8 σ11) (fun σ12 =>
  some σ12)) else none)
  else some σ4))))) else none)) else none)) else none)) else none)
set_option maxHeartbeats 1000000 in
theorem c_Machine_draw {N : Nat} {g : ax_G} {a1 : Int32} {σ : St} {s9 : St} (hJ : J_Machine_draw N a1 σ = some s9) : ax_CV μ_Machine_draw g y_Machine_draw (wC g) [.ref (g.2.1 24), .int a1] σ (ax_eqV s9) := by
  refine ax_CV.of (plainFor_of_name rfl) rfl (Nat.le_of_ble_eq_true rfl) (fun x A _ => ?_)
  show AW x μ_Machine_draw g A (wC g) (0, 0) (ax_QV x μ_Machine_draw g A (wC g) (ax_eqV s9)) 0 [(0, .ref (g.2.1 24)), (1, .int a1)] [] σ
  rw [J_Machine_draw] at hJ
  refine aw_aload_n (n := 1) d_Machine_draw_0 rfl rfl 0 rfl ?_
  refine gf_Machine_stack (n := 4) d_Machine_draw_1 rfl kf_Machine_36 ?_
  refine aw_iconst (n := 5) (v := 0) d_Machine_draw_4 rfl (by decide) ?_
  obtain ⟨h1, hJ⟩ := ax_need hJ
  refine al_27 (n := 6) d_Machine_draw_5 rfl h1 ?_
  obtain ⟨r1, σ1, hc1, hJ⟩ := ax_bindE hJ
  refine aw_callSi (n := 9) (c_Machine_floor hc1) Y_Machine_floor km_Machine_89 (by decide) (by decide) rfl rfl (Nat.le_of_ble_eq_true rfl) d_Machine_draw_6 rfl (fun r9 s9 hp => ?_)
  obtain ⟨rfl, rfl⟩ := hp
  refine aw_istore_n (n := 10) d_Machine_draw_9 rfl rfl (by decide) rfl ?_
  refine aw_aload_n (n := 11) d_Machine_draw_10 rfl rfl 1 rfl ?_
  refine gf_Machine_stack (n := 14) d_Machine_draw_11 rfl kf_Machine_36 ?_
  refine aw_iconst (n := 15) (v := 1) d_Machine_draw_14 rfl (by decide) ?_
  obtain ⟨h2, hJ⟩ := ax_need hJ
  refine al_27 (n := 16) d_Machine_draw_15 rfl h2 ?_
  obtain ⟨r2, σ2, hc2, hJ⟩ := ax_bindE hJ
  refine aw_callSi (n := 19) (c_Machine_floor hc2) Y_Machine_floor km_Machine_89 (by decide) (by decide) rfl rfl (Nat.le_of_ble_eq_true rfl) d_Machine_draw_16 rfl (fun r9 s9 hp => ?_)
  obtain ⟨rfl, rfl⟩ := hp
  refine aw_istore_n (n := 20) d_Machine_draw_19 rfl rfl (by decide) rfl ?_
  refine aw_aload_n (n := 21) d_Machine_draw_20 rfl rfl 2 rfl ?_
  refine gf_Machine_stack (n := 24) d_Machine_draw_21 rfl kf_Machine_36 ?_
  refine aw_iconst (n := 25) (v := 2) d_Machine_draw_24 rfl (by decide) ?_
  obtain ⟨h3, hJ⟩ := ax_need hJ
  refine al_27 (n := 26) d_Machine_draw_25 rfl h3 ?_
  obtain ⟨r3, σ3, hc3, hJ⟩ := ax_bindE hJ
  refine aw_callSi (n := 29) (c_Machine_floor hc3) Y_Machine_floor km_Machine_89 (by decide) (by decide) rfl rfl (Nat.le_of_ble_eq_true rfl) d_Machine_draw_26 rfl (fun r9 s9 hp => ?_)
  obtain ⟨rfl, rfl⟩ := hp
  refine aw_istore (n := 31) d_Machine_draw_29 rfl (by decide) rfl ?_
  refine aw_aload_n (n := 32) d_Machine_draw_31 rfl rfl 3 rfl ?_
  refine gf_Machine_stack (n := 35) d_Machine_draw_32 rfl kf_Machine_36 ?_
  refine aw_iconst (n := 36) (v := 3) d_Machine_draw_35 rfl (by decide) ?_
  obtain ⟨h4, hJ⟩ := ax_need hJ
  refine al_27 (n := 37) d_Machine_draw_36 rfl h4 ?_
  obtain ⟨r4, σ4, hc4, hJ⟩ := ax_bindE hJ
  refine aw_callSi (n := 40) (c_Machine_floor hc4) Y_Machine_floor km_Machine_89 (by decide) (by decide) rfl rfl (Nat.le_of_ble_eq_true rfl) d_Machine_draw_37 rfl (fun r9 s9 hp => ?_)
  obtain ⟨rfl, rfl⟩ := hp
  refine aw_istore (n := 42) d_Machine_draw_40 rfl (by decide) rfl ?_
  refine aw_iload_n (n := 43) d_Machine_draw_42 rfl rfl 5 rfl ?_
  rcases ax_ifE hJ with ⟨c1, hJ⟩ | ⟨c1, hJ⟩
  · refine aw_tableIn (t := 72) (off := 29) d_Machine_draw_43 (by rw [c1]; decide) (by rw [c1]; decide) (by first | (rw [c1]; done) | (rw [c1]; decide)) (by decide) ?_
    refine aw_aload_n (n := 73) d_Machine_draw_72 rfl rfl 4 rfl ?_
    refine gf_Machine_screen (n := 76) d_Machine_draw_73 rfl kf_Machine_12 ?_
    refine aw_aload_n (n := 77) d_Machine_draw_76 rfl rfl 4 rfl ?_
    refine gf_Machine_stack (n := 80) d_Machine_draw_77 rfl kf_Machine_36 ?_
    refine aw_iconst (n := 81) (v := 0) d_Machine_draw_80 rfl (by decide) ?_
    obtain ⟨h5, hJ⟩ := ax_need hJ
    refine al_27 (n := 82) d_Machine_draw_81 rfl h5 ?_
    obtain ⟨r5, σ5, hc5, hJ⟩ := ax_bindE hJ
    refine aw_callSi (n := 85) (c_Machine_colour hc5) Y_Machine_colour km_Machine_99 (by decide) (by decide) rfl rfl (Nat.le_of_ble_eq_true rfl) d_Machine_draw_82 rfl (fun r9 s9 hp => ?_)
    obtain ⟨rfl, rfl⟩ := hp
    obtain ⟨σ6, hc6, hJ⟩ := ax_bindVE hJ
    refine aw_callVv (n := 88) (c_Screen_paintAll hc6) 28 rfl rfl Y_Screen_paintAll km_Machine_49 (by decide) (by decide) rfl rfl (Nat.le_of_ble_eq_true rfl) d_Machine_draw_85 rfl (fun s9 hp => ?_)
    subst hp
    refine aw_goto (t := 162) d_Machine_draw_88 (by decide) ?_
    exact aw_vret d_Machine_draw_162 rfl (ax_retV hJ)
  rcases ax_ifE hJ with ⟨c2, hJ⟩ | ⟨c2, hJ⟩
  · refine aw_tableIn (t := 91) (off := 48) d_Machine_draw_43 (by rw [c2]; decide) (by rw [c2]; decide) (by first | (rw [c2]; done) | (rw [c2]; decide)) (by decide) ?_
    refine aw_aload_n (n := 92) d_Machine_draw_91 rfl rfl 4 rfl ?_
    refine gf_Machine_screen (n := 95) d_Machine_draw_92 rfl kf_Machine_12 ?_
    refine aw_iload_n (n := 96) d_Machine_draw_95 rfl rfl 3 rfl ?_
    refine aw_iload_n (n := 97) d_Machine_draw_96 rfl rfl 2 rfl ?_
    refine aw_aload_n (n := 98) d_Machine_draw_97 rfl rfl 4 rfl ?_
    refine gf_Machine_stack (n := 101) d_Machine_draw_98 rfl kf_Machine_36 ?_
    refine aw_iconst (n := 102) (v := 2) d_Machine_draw_101 rfl (by decide) ?_
    obtain ⟨h6, hJ⟩ := ax_need hJ
    refine al_27 (n := 103) d_Machine_draw_102 rfl h6 ?_
    obtain ⟨r6, σ7, hc7, hJ⟩ := ax_bindE hJ
    refine aw_callSi (n := 106) (c_Machine_colour hc7) Y_Machine_colour km_Machine_99 (by decide) (by decide) rfl rfl (Nat.le_of_ble_eq_true rfl) d_Machine_draw_103 rfl (fun r9 s9 hp => ?_)
    obtain ⟨rfl, rfl⟩ := hp
    obtain ⟨σ8, hc8, hJ⟩ := ax_bindVE hJ
    refine aw_callVv (n := 109) (c_Screen_paint hc8) 28 rfl rfl Y_Screen_paint km_Machine_102 (by decide) (by decide) rfl rfl (Nat.le_of_ble_eq_true rfl) d_Machine_draw_106 rfl (fun s9 hp => ?_)
    subst hp
    refine aw_goto (t := 162) d_Machine_draw_109 (by decide) ?_
    exact aw_vret d_Machine_draw_162 rfl (ax_retV hJ)
  rcases ax_ifE hJ with ⟨c3, hJ⟩ | ⟨c3, hJ⟩
  · refine aw_tableIn (t := 112) (off := 69) d_Machine_draw_43 (by rw [c3]; decide) (by rw [c3]; decide) (by first | (rw [c3]; done) | (rw [c3]; decide)) (by decide) ?_
    refine aw_aload_n (n := 113) d_Machine_draw_112 rfl rfl 4 rfl ?_
    refine gf_Machine_screen (n := 116) d_Machine_draw_113 rfl kf_Machine_12 ?_
    refine aw_iload_n (n := 117) d_Machine_draw_116 rfl rfl 3 rfl ?_
    refine aw_iload_n (n := 118) d_Machine_draw_117 rfl rfl 2 rfl ?_
    refine aw_iload (n := 120) d_Machine_draw_118 rfl 1 rfl ?_
    refine aw_iload (n := 122) d_Machine_draw_120 rfl 0 rfl ?_
    refine aw_aload_n (n := 123) d_Machine_draw_122 rfl rfl 4 rfl ?_
    refine gf_Machine_stack (n := 126) d_Machine_draw_123 rfl kf_Machine_36 ?_
    refine aw_iconst (n := 127) (v := 4) d_Machine_draw_126 rfl (by decide) ?_
    obtain ⟨h7, hJ⟩ := ax_need hJ
    refine al_27 (n := 128) d_Machine_draw_127 rfl h7 ?_
    obtain ⟨r7, σ9, hc9, hJ⟩ := ax_bindE hJ
    refine aw_callSi (n := 131) (c_Machine_colour hc9) Y_Machine_colour km_Machine_99 (by decide) (by decide) rfl rfl (Nat.le_of_ble_eq_true rfl) d_Machine_draw_128 rfl (fun r9 s9 hp => ?_)
    obtain ⟨rfl, rfl⟩ := hp
    obtain ⟨σ10, hc10, hJ⟩ := ax_bindVE hJ
    refine aw_callVv (n := 134) (c_Screen_paintLine hc10) 28 rfl rfl Y_Screen_paintLine km_Machine_106 (by decide) (by decide) rfl rfl (Nat.le_of_ble_eq_true rfl) d_Machine_draw_131 rfl (fun s9 hp => ?_)
    subst hp
    refine aw_goto (t := 162) d_Machine_draw_134 (by decide) ?_
    exact aw_vret d_Machine_draw_162 rfl (ax_retV hJ)
  rcases ax_ifE hJ with ⟨c4, hJ⟩ | ⟨c4, hJ⟩
  · refine aw_tableIn (t := 137) (off := 94) d_Machine_draw_43 (by rw [c4]; decide) (by rw [c4]; decide) (by first | (rw [c4]; done) | (rw [c4]; decide)) (by decide) ?_
    refine aw_aload_n (n := 138) d_Machine_draw_137 rfl rfl 4 rfl ?_
    refine gf_Machine_screen (n := 141) d_Machine_draw_138 rfl kf_Machine_12 ?_
    refine aw_iload_n (n := 142) d_Machine_draw_141 rfl rfl 3 rfl ?_
    refine aw_iload_n (n := 143) d_Machine_draw_142 rfl rfl 2 rfl ?_
    refine aw_iload (n := 145) d_Machine_draw_143 rfl 1 rfl ?_
    refine aw_iload (n := 147) d_Machine_draw_145 rfl 0 rfl ?_
    refine aw_aload_n (n := 148) d_Machine_draw_147 rfl rfl 4 rfl ?_
    refine gf_Machine_stack (n := 151) d_Machine_draw_148 rfl kf_Machine_36 ?_
    refine aw_iconst (n := 152) (v := 4) d_Machine_draw_151 rfl (by decide) ?_
    obtain ⟨h8, hJ⟩ := ax_need hJ
    refine al_27 (n := 153) d_Machine_draw_152 rfl h8 ?_
    obtain ⟨r8, σ11, hc11, hJ⟩ := ax_bindE hJ
    refine aw_callSi (n := 156) (c_Machine_colour hc11) Y_Machine_colour km_Machine_99 (by decide) (by decide) rfl rfl (Nat.le_of_ble_eq_true rfl) d_Machine_draw_153 rfl (fun r9 s9 hp => ?_)
    obtain ⟨rfl, rfl⟩ := hp
    obtain ⟨σ12, hc12, hJ⟩ := ax_bindVE hJ
    refine aw_callVv (n := 159) (c_Screen_paintBox hc12) 28 rfl rfl Y_Screen_paintBox km_Machine_110 (by decide) (by decide) rfl rfl (Nat.le_of_ble_eq_true rfl) d_Machine_draw_156 rfl (fun s9 hp => ?_)
    subst hp
    refine aw_goto (t := 162) d_Machine_draw_159 (by decide) ?_
    exact aw_vret d_Machine_draw_162 rfl (ax_retV hJ)
  have q0 := lv_neT (a := 8) c1 (by decide)
  have q1 := lv_neT (a := 9) c2 (by decide)
  have q2 := lv_neT (a := 10) c3 (by decide)
  have q3 := lv_neT (a := 11) c4 (by decide)
  refine aw_tableOut (t := 162) d_Machine_draw_43 (by omega) (by decide) ?_
  exact aw_vret d_Machine_draw_162 rfl (ax_retV hJ)
abbrev b_Machine_writeCell : ByteArray := prog_3_method_4_code
def y_Machine_writeCell : MethodName := ⟨"DotConsole$Machine", "writeCell", "(II)V"⟩
theorem d_Machine_writeCell_0 : decode b_Machine_writeCell 0 = .ok (.iload_n 1, 1) := by decide +kernel
theorem d_Machine_writeCell_1 : decode b_Machine_writeCell 1 = .ok (.ifCond .lt 16, 3) := by decide +kernel
theorem d_Machine_writeCell_4 : decode b_Machine_writeCell 4 = .ok (.iload_n 1, 1) := by decide +kernel
theorem d_Machine_writeCell_5 : decode b_Machine_writeCell 5 = .ok (.bipush 32, 2) := by decide +kernel
theorem d_Machine_writeCell_7 : decode b_Machine_writeCell 7 = .ok (.if_icmp .ge 10, 3) := by decide +kernel
theorem d_Machine_writeCell_10 : decode b_Machine_writeCell 10 = .ok (.aload_n 0, 1) := by decide +kernel
theorem d_Machine_writeCell_11 : decode b_Machine_writeCell 11 = .ok (.getfield 29, 3) := by decide +kernel
theorem d_Machine_writeCell_14 : decode b_Machine_writeCell 14 = .ok (.iload_n 1, 1) := by decide +kernel
theorem d_Machine_writeCell_15 : decode b_Machine_writeCell 15 = .ok (.iload_n 2, 1) := by decide +kernel
theorem d_Machine_writeCell_16 : decode b_Machine_writeCell 16 = .ok (.iastore, 1) := by decide +kernel
theorem d_Machine_writeCell_17 : decode b_Machine_writeCell 17 = .ok (.return_, 1) := by decide +kernel
def μ_Machine_writeCell : ax_M := (b_Machine_writeCell, 3, "DotConsole$Machine", none, 0, 0, 0, 0)
theorem Y_Machine_writeCell : ax_YV μ_Machine_writeCell y_Machine_writeCell 2 := ⟨⟨ax_mem (by decide +kernel) rfl, ax_mem (by decide +kernel) rfl, by decide, by decide, by decide +kernel⟩, ax_mem (by decide +kernel) rfl, ax_mem (by decide +kernel) rfl⟩
def J_Machine_writeCell (N : Nat) (a1 : Int32) (a2 : Int32) (σ : St) : Option St :=
  (if a1 < 0 then
  some σ
  else (if 32 ≤ a1 then
  some σ
  else (if (inB a1 32) = true then ax_let (sA σ 20 a1.toNatClampNeg a2) (fun σ1 =>
  some σ1) else none)))
set_option maxHeartbeats 1000000 in
theorem c_Machine_writeCell {N : Nat} {g : ax_G} {a1 : Int32} {a2 : Int32} {σ : St} {s9 : St} (hJ : J_Machine_writeCell N a1 a2 σ = some s9) : ax_CV μ_Machine_writeCell g y_Machine_writeCell (wC g) [.ref (g.2.1 24), .int a1, .int a2] σ (ax_eqV s9) := by
  refine ax_CV.of (plainFor_of_name rfl) rfl (Nat.le_of_ble_eq_true rfl) (fun x A _ => ?_)
  show AW x μ_Machine_writeCell g A (wC g) (0, 0) (ax_QV x μ_Machine_writeCell g A (wC g) (ax_eqV s9)) 0 [(0, .ref (g.2.1 24)), (1, .int a1), (2, .int a2)] [] σ
  rw [J_Machine_writeCell] at hJ
  refine aw_iload_n (n := 1) d_Machine_writeCell_0 rfl rfl 1 rfl ?_
  refine aw_if_lt (n := 4) (t := 17) d_Machine_writeCell_1 rfl (by decide) (fun c1 => ?_) (fun c1 => ?_)
  · rw [if_pos c1] at hJ
    exact aw_vret d_Machine_writeCell_17 rfl (ax_retV hJ)
  · rw [if_neg c1] at hJ
    refine aw_iload_n (n := 5) d_Machine_writeCell_4 rfl rfl 1 rfl ?_
    refine aw_bipush (n := 7) (v := 32) d_Machine_writeCell_5 rfl (by decide) ?_
    refine aw_icmp_ge (n := 10) (t := 17) d_Machine_writeCell_7 rfl (by decide) (fun c2 => ?_) (fun c2 => ?_)
    · rw [if_pos c2] at hJ
      exact aw_vret d_Machine_writeCell_17 rfl (ax_retV hJ)
    · rw [if_neg c2] at hJ
      refine aw_aload_n (n := 11) d_Machine_writeCell_10 rfl rfl 0 rfl ?_
      refine gf_Machine_cells (n := 14) d_Machine_writeCell_11 rfl kf_Machine_29 ?_
      refine aw_iload_n (n := 15) d_Machine_writeCell_14 rfl rfl 1 rfl ?_
      refine aw_iload_n (n := 16) d_Machine_writeCell_15 rfl rfl 2 rfl ?_
      obtain ⟨h1, hJ⟩ := ax_need hJ
      refine as_26 (n := 17) d_Machine_writeCell_16 rfl h1 ?_
      obtain ⟨σ1, eσ1, hJ⟩ := ax_letE hJ
      refine aw_let eσ1 ?_
      exact aw_vret d_Machine_writeCell_17 rfl (ax_retV hJ)
