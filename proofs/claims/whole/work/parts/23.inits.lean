abbrev b_Names_init : ByteArray := prog_4_method_1_code
def y_Names_init : MethodName := ⟨"DotConsole$Names", "<init>", "()V"⟩
theorem d_Names_init_0 : decode b_Names_init 0 = .ok (.aload_n 0, 1) := by decide +kernel
theorem d_Names_init_1 : decode b_Names_init 1 = .ok (.invokespecial 3, 3) := by decide +kernel
theorem d_Names_init_4 : decode b_Names_init 4 = .ok (.aload_n 0, 1) := by decide +kernel
theorem d_Names_init_5 : decode b_Names_init 5 = .ok (.bipush 12, 2) := by decide +kernel
theorem d_Names_init_7 : decode b_Names_init 7 = .ok (.newarray .int, 2) := by decide +kernel
theorem d_Names_init_9 : decode b_Names_init 9 = .ok (.putfield 9, 3) := by decide +kernel
theorem d_Names_init_12 : decode b_Names_init 12 = .ok (.return_, 1) := by decide +kernel
def μ_Names_init : ax_M := (b_Names_init, 1, "DotConsole$Names", none, 1, 12, 1, 12)
theorem YI_Names : ax_Y μ_Names_init y_Names_init 0 := ⟨ax_mem (by decide +kernel) rfl, ax_mem (by decide +kernel) rfl, by decide, by decide, by decide +kernel⟩
theorem km_Names_3 : Cond.methodLink "DotConsole$Names" 3 objectInit ∈ ax_T := ax_mem (by decide +kernel) rfl
set_option maxHeartbeats 2000000 in
theorem c_Names_init {g : ax_G} (h0 : Nat) : ax_CV μ_Names_init g y_Names_init id [.ref h0] [(h0, .inr (2, [.null, .int 0, .int 0, .int 0]))] (fun u => ∃ (q1 : Nat), u = [(h0, .inr (2, [.ref q1, .int 0, .int 0, .int 0])), (q1, .inl (g.2.2.1 0, 12, .inl (fun _ => 0)))]) := by
  refine ax_CV.of (plainFor_of_name rfl) rfl (Nat.le_of_ble_eq_true rfl) (fun x A hname => ?_)
  show AW x μ_Names_init g A id (0, 0) _ 0 [(0, .ref h0)] [] [(h0, .inr (2, [.null, .int 0, .int 0, .int 0]))]
  refine aw_aload_n (n := 1) d_Names_init_0 rfl rfl 0 rfl ?_
  refine an_obj (n := 4) km_Names_3 (by decide) (Nat.le_of_ble_eq_true rfl) d_Names_init_1 rfl ?_
  refine aw_aload_n (n := 5) d_Names_init_4 rfl rfl 0 rfl ?_
  refine aw_bipush (n := 7) (v := 12) d_Names_init_5 rfl (by decide) ?_
  refine an_newi (n := 9) (N := 12) (kk2 := (1, 12)) (by decide) (by decide) (by decide) (by decide) (by decide) rfl d_Names_init_7 rfl (fun q1 => ?_)
  refine an_ws (ws2 := [(h0, .inr (2, [.null, .int 0, .int 0, .int 0])), (q1, .inl (g.2.2.1 0, 12, .inl (fun _ => 0)))]) rfl ?_
  refine an_putF (n := 12) (C := R_Names) (T := F_Names) (N := 4) (ci := 2) (ty := (.array .int)) 0 rfl rfl 0 (by decide) ty_Names ty_Names_ok nm_Names rfl rfl rfl rfl (Nat.le_of_ble_eq_true rfl) i_Names rfl hname kf_Names_9 d_Names_init_9 rfl ?_
  refine an_ws (ws2 := [(h0, .inr (2, [.ref q1, .int 0, .int 0, .int 0])), (q1, .inl (g.2.2.1 0, 12, .inl (fun _ => 0)))]) rfl ?_
  exact aw_vret d_Names_init_12 rfl ⟨q1, rfl⟩
abbrev b_Program_init : ByteArray := prog_6_method_1_code
def y_Program_init : MethodName := ⟨"DotConsole$Program", "<init>", "()V"⟩
theorem d_Program_init_0 : decode b_Program_init 0 = .ok (.aload_n 0, 1) := by decide +kernel
theorem d_Program_init_1 : decode b_Program_init 1 = .ok (.invokespecial 3, 3) := by decide +kernel
theorem d_Program_init_4 : decode b_Program_init 4 = .ok (.aload_n 0, 1) := by decide +kernel
theorem d_Program_init_5 : decode b_Program_init 5 = .ok (.bipush 28, 2) := by decide +kernel
theorem d_Program_init_7 : decode b_Program_init 7 = .ok (.newarray .int, 2) := by decide +kernel
theorem d_Program_init_9 : decode b_Program_init 9 = .ok (.putfield 9, 3) := by decide +kernel
theorem d_Program_init_12 : decode b_Program_init 12 = .ok (.aload_n 0, 1) := by decide +kernel
theorem d_Program_init_13 : decode b_Program_init 13 = .ok (.bipush 28, 2) := by decide +kernel
theorem d_Program_init_15 : decode b_Program_init 15 = .ok (.newarray .int, 2) := by decide +kernel
theorem d_Program_init_17 : decode b_Program_init 17 = .ok (.putfield 15, 3) := by decide +kernel
theorem d_Program_init_20 : decode b_Program_init 20 = .ok (.aload_n 0, 1) := by decide +kernel
theorem d_Program_init_21 : decode b_Program_init 21 = .ok (.bipush 28, 2) := by decide +kernel
theorem d_Program_init_23 : decode b_Program_init 23 = .ok (.newarray .int, 2) := by decide +kernel
theorem d_Program_init_25 : decode b_Program_init 25 = .ok (.putfield 18, 3) := by decide +kernel
theorem d_Program_init_28 : decode b_Program_init 28 = .ok (.aload_n 0, 1) := by decide +kernel
theorem d_Program_init_29 : decode b_Program_init 29 = .ok (.sipush 448, 3) := by decide +kernel
theorem d_Program_init_32 : decode b_Program_init 32 = .ok (.newarray .int, 2) := by decide +kernel
theorem d_Program_init_34 : decode b_Program_init 34 = .ok (.putfield 21, 3) := by decide +kernel
theorem d_Program_init_37 : decode b_Program_init 37 = .ok (.aload_n 0, 1) := by decide +kernel
theorem d_Program_init_38 : decode b_Program_init 38 = .ok (.sipush 448, 3) := by decide +kernel
theorem d_Program_init_41 : decode b_Program_init 41 = .ok (.newarray .int, 2) := by decide +kernel
theorem d_Program_init_43 : decode b_Program_init 43 = .ok (.putfield 24, 3) := by decide +kernel
theorem d_Program_init_46 : decode b_Program_init 46 = .ok (.aload_n 0, 1) := by decide +kernel
theorem d_Program_init_47 : decode b_Program_init 47 = .ok (.bipush 28, 2) := by decide +kernel
theorem d_Program_init_49 : decode b_Program_init 49 = .ok (.newarray .int, 2) := by decide +kernel
theorem d_Program_init_51 : decode b_Program_init 51 = .ok (.putfield 27, 3) := by decide +kernel
theorem d_Program_init_54 : decode b_Program_init 54 = .ok (.aload_n 0, 1) := by decide +kernel
theorem d_Program_init_55 : decode b_Program_init 55 = .ok (.iconst 4, 1) := by decide +kernel
theorem d_Program_init_56 : decode b_Program_init 56 = .ok (.newarray .int, 2) := by decide +kernel
theorem d_Program_init_58 : decode b_Program_init 58 = .ok (.putfield 30, 3) := by decide +kernel
theorem d_Program_init_61 : decode b_Program_init 61 = .ok (.return_, 1) := by decide +kernel
def μ_Program_init : ax_M := (b_Program_init, 1, "DotConsole$Program", none, 1, 12, 7, 1012)
theorem YI_Program : ax_Y μ_Program_init y_Program_init 0 := ⟨ax_mem (by decide +kernel) rfl, ax_mem (by decide +kernel) rfl, by decide, by decide, by decide +kernel⟩
theorem km_Program_3 : Cond.methodLink "DotConsole$Program" 3 objectInit ∈ ax_T := ax_mem (by decide +kernel) rfl
set_option maxHeartbeats 2000000 in
theorem c_Program_init {g : ax_G} (h0 : Nat) : ax_CV μ_Program_init g y_Program_init id [.ref h0] [(h0, .inr (4, [.int 0, .int 0, .null, .null, .null, .null, .null, .null, .null, .int 0]))] (fun u => ∃ (q1 : Nat) (q2 : Nat) (q3 : Nat) (q4 : Nat) (q5 : Nat) (q6 : Nat) (q7 : Nat), u = [(h0, .inr (4, [.int 0, .int 0, .ref q1, .ref q2, .ref q3, .ref q4, .ref q5, .ref q6, .ref q7, .int 0])), (q1, .inl (g.2.2.1 0, 28, .inl (fun _ => 0))), (q2, .inl (g.2.2.1 0, 28, .inl (fun _ => 0))), (q3, .inl (g.2.2.1 0, 28, .inl (fun _ => 0))), (q4, .inl (g.2.2.1 0, 448, .inl (fun _ => 0))), (q5, .inl (g.2.2.1 0, 448, .inl (fun _ => 0))), (q6, .inl (g.2.2.1 0, 28, .inl (fun _ => 0))), (q7, .inl (g.2.2.1 0, 4, .inl (fun _ => 0)))]) := by
  refine ax_CV.of (plainFor_of_name rfl) rfl (Nat.le_of_ble_eq_true rfl) (fun x A hname => ?_)
  show AW x μ_Program_init g A id (0, 0) _ 0 [(0, .ref h0)] [] [(h0, .inr (4, [.int 0, .int 0, .null, .null, .null, .null, .null, .null, .null, .int 0]))]
  refine aw_aload_n (n := 1) d_Program_init_0 rfl rfl 0 rfl ?_
  refine an_obj (n := 4) km_Program_3 (by decide) (Nat.le_of_ble_eq_true rfl) d_Program_init_1 rfl ?_
  refine aw_aload_n (n := 5) d_Program_init_4 rfl rfl 0 rfl ?_
  refine aw_bipush (n := 7) (v := 28) d_Program_init_5 rfl (by decide) ?_
  refine an_newi (n := 9) (N := 28) (kk2 := (1, 28)) (by decide) (by decide) (by decide) (by decide) (by decide) rfl d_Program_init_7 rfl (fun q1 => ?_)
  refine an_ws (ws2 := [(h0, .inr (4, [.int 0, .int 0, .null, .null, .null, .null, .null, .null, .null, .int 0])), (q1, .inl (g.2.2.1 0, 28, .inl (fun _ => 0)))]) rfl ?_
  refine an_putF (n := 12) (C := R_Program) (T := F_Program) (N := 10) (ci := 4) (ty := (.array .int)) 0 rfl rfl 2 (by decide) ty_Program ty_Program_ok nm_Program rfl rfl rfl rfl (Nat.le_of_ble_eq_true rfl) i_Program rfl hname kf_Program_9 d_Program_init_9 rfl ?_
  refine an_ws (ws2 := [(h0, .inr (4, [.int 0, .int 0, .ref q1, .null, .null, .null, .null, .null, .null, .int 0])), (q1, .inl (g.2.2.1 0, 28, .inl (fun _ => 0)))]) rfl ?_
  refine aw_aload_n (n := 13) d_Program_init_12 rfl rfl 0 rfl ?_
  refine aw_bipush (n := 15) (v := 28) d_Program_init_13 rfl (by decide) ?_
  refine an_newi (n := 17) (N := 28) (kk2 := (2, 56)) (by decide) (by decide) (by decide) (by decide) (by decide) rfl d_Program_init_15 rfl (fun q2 => ?_)
  refine an_ws (ws2 := [(h0, .inr (4, [.int 0, .int 0, .ref q1, .null, .null, .null, .null, .null, .null, .int 0])), (q1, .inl (g.2.2.1 0, 28, .inl (fun _ => 0))), (q2, .inl (g.2.2.1 0, 28, .inl (fun _ => 0)))]) rfl ?_
  refine an_putF (n := 20) (C := R_Program) (T := F_Program) (N := 10) (ci := 4) (ty := (.array .int)) 0 rfl rfl 3 (by decide) ty_Program ty_Program_ok nm_Program rfl rfl rfl rfl (Nat.le_of_ble_eq_true rfl) i_Program rfl hname kf_Program_15 d_Program_init_17 rfl ?_
  refine an_ws (ws2 := [(h0, .inr (4, [.int 0, .int 0, .ref q1, .ref q2, .null, .null, .null, .null, .null, .int 0])), (q1, .inl (g.2.2.1 0, 28, .inl (fun _ => 0))), (q2, .inl (g.2.2.1 0, 28, .inl (fun _ => 0)))]) rfl ?_
  refine aw_aload_n (n := 21) d_Program_init_20 rfl rfl 0 rfl ?_
  refine aw_bipush (n := 23) (v := 28) d_Program_init_21 rfl (by decide) ?_
  refine an_newi (n := 25) (N := 28) (kk2 := (3, 84)) (by decide) (by decide) (by decide) (by decide) (by decide) rfl d_Program_init_23 rfl (fun q3 => ?_)
  refine an_ws (ws2 := [(h0, .inr (4, [.int 0, .int 0, .ref q1, .ref q2, .null, .null, .null, .null, .null, .int 0])), (q1, .inl (g.2.2.1 0, 28, .inl (fun _ => 0))), (q2, .inl (g.2.2.1 0, 28, .inl (fun _ => 0))), (q3, .inl (g.2.2.1 0, 28, .inl (fun _ => 0)))]) rfl ?_
  refine an_putF (n := 28) (C := R_Program) (T := F_Program) (N := 10) (ci := 4) (ty := (.array .int)) 0 rfl rfl 4 (by decide) ty_Program ty_Program_ok nm_Program rfl rfl rfl rfl (Nat.le_of_ble_eq_true rfl) i_Program rfl hname kf_Program_18 d_Program_init_25 rfl ?_
  refine an_ws (ws2 := [(h0, .inr (4, [.int 0, .int 0, .ref q1, .ref q2, .ref q3, .null, .null, .null, .null, .int 0])), (q1, .inl (g.2.2.1 0, 28, .inl (fun _ => 0))), (q2, .inl (g.2.2.1 0, 28, .inl (fun _ => 0))), (q3, .inl (g.2.2.1 0, 28, .inl (fun _ => 0)))]) rfl ?_
  refine aw_aload_n (n := 29) d_Program_init_28 rfl rfl 0 rfl ?_
  refine aw_sipush (n := 32) (v := 448) d_Program_init_29 rfl (by decide) ?_
  refine an_newi (n := 34) (N := 448) (kk2 := (4, 532)) (by decide) (by decide) (by decide) (by decide) (by decide) rfl d_Program_init_32 rfl (fun q4 => ?_)
  refine an_ws (ws2 := [(h0, .inr (4, [.int 0, .int 0, .ref q1, .ref q2, .ref q3, .null, .null, .null, .null, .int 0])), (q1, .inl (g.2.2.1 0, 28, .inl (fun _ => 0))), (q2, .inl (g.2.2.1 0, 28, .inl (fun _ => 0))), (q3, .inl (g.2.2.1 0, 28, .inl (fun _ => 0))), (q4, .inl (g.2.2.1 0, 448, .inl (fun _ => 0)))]) rfl ?_
  refine an_putF (n := 37) (C := R_Program) (T := F_Program) (N := 10) (ci := 4) (ty := (.array .int)) 0 rfl rfl 5 (by decide) ty_Program ty_Program_ok nm_Program rfl rfl rfl rfl (Nat.le_of_ble_eq_true rfl) i_Program rfl hname kf_Program_21 d_Program_init_34 rfl ?_
  refine an_ws (ws2 := [(h0, .inr (4, [.int 0, .int 0, .ref q1, .ref q2, .ref q3, .ref q4, .null, .null, .null, .int 0])), (q1, .inl (g.2.2.1 0, 28, .inl (fun _ => 0))), (q2, .inl (g.2.2.1 0, 28, .inl (fun _ => 0))), (q3, .inl (g.2.2.1 0, 28, .inl (fun _ => 0))), (q4, .inl (g.2.2.1 0, 448, .inl (fun _ => 0)))]) rfl ?_
  refine aw_aload_n (n := 38) d_Program_init_37 rfl rfl 0 rfl ?_
  refine aw_sipush (n := 41) (v := 448) d_Program_init_38 rfl (by decide) ?_
  refine an_newi (n := 43) (N := 448) (kk2 := (5, 980)) (by decide) (by decide) (by decide) (by decide) (by decide) rfl d_Program_init_41 rfl (fun q5 => ?_)
  refine an_ws (ws2 := [(h0, .inr (4, [.int 0, .int 0, .ref q1, .ref q2, .ref q3, .ref q4, .null, .null, .null, .int 0])), (q1, .inl (g.2.2.1 0, 28, .inl (fun _ => 0))), (q2, .inl (g.2.2.1 0, 28, .inl (fun _ => 0))), (q3, .inl (g.2.2.1 0, 28, .inl (fun _ => 0))), (q4, .inl (g.2.2.1 0, 448, .inl (fun _ => 0))), (q5, .inl (g.2.2.1 0, 448, .inl (fun _ => 0)))]) rfl ?_
  refine an_putF (n := 46) (C := R_Program) (T := F_Program) (N := 10) (ci := 4) (ty := (.array .int)) 0 rfl rfl 6 (by decide) ty_Program ty_Program_ok nm_Program rfl rfl rfl rfl (Nat.le_of_ble_eq_true rfl) i_Program rfl hname kf_Program_24 d_Program_init_43 rfl ?_
  refine an_ws (ws2 := [(h0, .inr (4, [.int 0, .int 0, .ref q1, .ref q2, .ref q3, .ref q4, .ref q5, .null, .null, .int 0])), (q1, .inl (g.2.2.1 0, 28, .inl (fun _ => 0))), (q2, .inl (g.2.2.1 0, 28, .inl (fun _ => 0))), (q3, .inl (g.2.2.1 0, 28, .inl (fun _ => 0))), (q4, .inl (g.2.2.1 0, 448, .inl (fun _ => 0))), (q5, .inl (g.2.2.1 0, 448, .inl (fun _ => 0)))]) rfl ?_
  refine aw_aload_n (n := 47) d_Program_init_46 rfl rfl 0 rfl ?_
  refine aw_bipush (n := 49) (v := 28) d_Program_init_47 rfl (by decide) ?_
  refine an_newi (n := 51) (N := 28) (kk2 := (6, 1008)) (by decide) (by decide) (by decide) (by decide) (by decide) rfl d_Program_init_49 rfl (fun q6 => ?_)
  refine an_ws (ws2 := [(h0, .inr (4, [.int 0, .int 0, .ref q1, .ref q2, .ref q3, .ref q4, .ref q5, .null, .null, .int 0])), (q1, .inl (g.2.2.1 0, 28, .inl (fun _ => 0))), (q2, .inl (g.2.2.1 0, 28, .inl (fun _ => 0))), (q3, .inl (g.2.2.1 0, 28, .inl (fun _ => 0))), (q4, .inl (g.2.2.1 0, 448, .inl (fun _ => 0))), (q5, .inl (g.2.2.1 0, 448, .inl (fun _ => 0))), (q6, .inl (g.2.2.1 0, 28, .inl (fun _ => 0)))]) rfl ?_
  refine an_putF (n := 54) (C := R_Program) (T := F_Program) (N := 10) (ci := 4) (ty := (.array .int)) 0 rfl rfl 7 (by decide) ty_Program ty_Program_ok nm_Program rfl rfl rfl rfl (Nat.le_of_ble_eq_true rfl) i_Program rfl hname kf_Program_27 d_Program_init_51 rfl ?_
  refine an_ws (ws2 := [(h0, .inr (4, [.int 0, .int 0, .ref q1, .ref q2, .ref q3, .ref q4, .ref q5, .ref q6, .null, .int 0])), (q1, .inl (g.2.2.1 0, 28, .inl (fun _ => 0))), (q2, .inl (g.2.2.1 0, 28, .inl (fun _ => 0))), (q3, .inl (g.2.2.1 0, 28, .inl (fun _ => 0))), (q4, .inl (g.2.2.1 0, 448, .inl (fun _ => 0))), (q5, .inl (g.2.2.1 0, 448, .inl (fun _ => 0))), (q6, .inl (g.2.2.1 0, 28, .inl (fun _ => 0)))]) rfl ?_
  refine aw_aload_n (n := 55) d_Program_init_54 rfl rfl 0 rfl ?_
  refine aw_iconst (n := 56) (v := 4) d_Program_init_55 rfl (by decide) ?_
  refine an_newi (n := 58) (N := 4) (kk2 := (7, 1012)) (by decide) (by decide) (by decide) (by decide) (by decide) rfl d_Program_init_56 rfl (fun q7 => ?_)
  refine an_ws (ws2 := [(h0, .inr (4, [.int 0, .int 0, .ref q1, .ref q2, .ref q3, .ref q4, .ref q5, .ref q6, .null, .int 0])), (q1, .inl (g.2.2.1 0, 28, .inl (fun _ => 0))), (q2, .inl (g.2.2.1 0, 28, .inl (fun _ => 0))), (q3, .inl (g.2.2.1 0, 28, .inl (fun _ => 0))), (q4, .inl (g.2.2.1 0, 448, .inl (fun _ => 0))), (q5, .inl (g.2.2.1 0, 448, .inl (fun _ => 0))), (q6, .inl (g.2.2.1 0, 28, .inl (fun _ => 0))), (q7, .inl (g.2.2.1 0, 4, .inl (fun _ => 0)))]) rfl ?_
  refine an_putF (n := 61) (C := R_Program) (T := F_Program) (N := 10) (ci := 4) (ty := (.array .int)) 0 rfl rfl 8 (by decide) ty_Program ty_Program_ok nm_Program rfl rfl rfl rfl (Nat.le_of_ble_eq_true rfl) i_Program rfl hname kf_Program_30 d_Program_init_58 rfl ?_
  refine an_ws (ws2 := [(h0, .inr (4, [.int 0, .int 0, .ref q1, .ref q2, .ref q3, .ref q4, .ref q5, .ref q6, .ref q7, .int 0])), (q1, .inl (g.2.2.1 0, 28, .inl (fun _ => 0))), (q2, .inl (g.2.2.1 0, 28, .inl (fun _ => 0))), (q3, .inl (g.2.2.1 0, 28, .inl (fun _ => 0))), (q4, .inl (g.2.2.1 0, 448, .inl (fun _ => 0))), (q5, .inl (g.2.2.1 0, 448, .inl (fun _ => 0))), (q6, .inl (g.2.2.1 0, 28, .inl (fun _ => 0))), (q7, .inl (g.2.2.1 0, 4, .inl (fun _ => 0)))]) rfl ?_
  exact aw_vret d_Program_init_61 rfl ⟨q1, q2, q3, q4, q5, q6, q7, rfl⟩
abbrev b_Screen_init : ByteArray := prog_7_method_1_code
def y_Screen_init : MethodName := ⟨"DotConsole$Screen", "<init>", "()V"⟩
theorem d_Screen_init_0 : decode b_Screen_init 0 = .ok (.aload_n 0, 1) := by decide +kernel
theorem d_Screen_init_1 : decode b_Screen_init 1 = .ok (.invokespecial 3, 3) := by decide +kernel
theorem d_Screen_init_4 : decode b_Screen_init 4 = .ok (.aload_n 0, 1) := by decide +kernel
theorem d_Screen_init_5 : decode b_Screen_init 5 = .ok (.sipush 256, 3) := by decide +kernel
theorem d_Screen_init_8 : decode b_Screen_init 8 = .ok (.newarray .int, 2) := by decide +kernel
theorem d_Screen_init_10 : decode b_Screen_init 10 = .ok (.putfield 9, 3) := by decide +kernel
theorem d_Screen_init_13 : decode b_Screen_init 13 = .ok (.return_, 1) := by decide +kernel
def μ_Screen_init : ax_M := (b_Screen_init, 1, "DotConsole$Screen", none, 1, 12, 1, 256)
theorem YI_Screen : ax_Y μ_Screen_init y_Screen_init 0 := ⟨ax_mem (by decide +kernel) rfl, ax_mem (by decide +kernel) rfl, by decide, by decide, by decide +kernel⟩
theorem km_Screen_3 : Cond.methodLink "DotConsole$Screen" 3 objectInit ∈ ax_T := ax_mem (by decide +kernel) rfl
set_option maxHeartbeats 2000000 in
theorem c_Screen_init {g : ax_G} (h0 : Nat) : ax_CV μ_Screen_init g y_Screen_init id [.ref h0] [(h0, .inr (6, [.null]))] (fun u => ∃ (q1 : Nat), u = [(h0, .inr (6, [.ref q1])), (q1, .inl (g.2.2.1 0, 256, .inl (fun _ => 0)))]) := by
  refine ax_CV.of (plainFor_of_name rfl) rfl (Nat.le_of_ble_eq_true rfl) (fun x A hname => ?_)
  show AW x μ_Screen_init g A id (0, 0) _ 0 [(0, .ref h0)] [] [(h0, .inr (6, [.null]))]
  refine aw_aload_n (n := 1) d_Screen_init_0 rfl rfl 0 rfl ?_
  refine an_obj (n := 4) km_Screen_3 (by decide) (Nat.le_of_ble_eq_true rfl) d_Screen_init_1 rfl ?_
  refine aw_aload_n (n := 5) d_Screen_init_4 rfl rfl 0 rfl ?_
  refine aw_sipush (n := 8) (v := 256) d_Screen_init_5 rfl (by decide) ?_
  refine an_newi (n := 10) (N := 256) (kk2 := (1, 256)) (by decide) (by decide) (by decide) (by decide) (by decide) rfl d_Screen_init_8 rfl (fun q1 => ?_)
  refine an_ws (ws2 := [(h0, .inr (6, [.null])), (q1, .inl (g.2.2.1 0, 256, .inl (fun _ => 0)))]) rfl ?_
  refine an_putF (n := 13) (C := R_Screen) (T := F_Screen) (N := 1) (ci := 6) (ty := (.array .int)) 0 rfl rfl 0 (by decide) ty_Screen ty_Screen_ok nm_Screen rfl rfl rfl rfl (Nat.le_of_ble_eq_true rfl) i_Screen rfl hname kf_Screen_9 d_Screen_init_10 rfl ?_
  refine an_ws (ws2 := [(h0, .inr (6, [.ref q1])), (q1, .inl (g.2.2.1 0, 256, .inl (fun _ => 0)))]) rfl ?_
  exact aw_vret d_Screen_init_13 rfl ⟨q1, rfl⟩
abbrev b_Pad_init : ByteArray := prog_5_method_1_code
def y_Pad_init : MethodName := ⟨"DotConsole$Pad", "<init>", "()V"⟩
theorem d_Pad_init_0 : decode b_Pad_init 0 = .ok (.aload_n 0, 1) := by decide +kernel
theorem d_Pad_init_1 : decode b_Pad_init 1 = .ok (.invokespecial 3, 3) := by decide +kernel
theorem d_Pad_init_4 : decode b_Pad_init 4 = .ok (.aload_n 0, 1) := by decide +kernel
theorem d_Pad_init_5 : decode b_Pad_init 5 = .ok (.bipush 6, 2) := by decide +kernel
theorem d_Pad_init_7 : decode b_Pad_init 7 = .ok (.newarray .int, 2) := by decide +kernel
theorem d_Pad_init_9 : decode b_Pad_init 9 = .ok (.putfield 9, 3) := by decide +kernel
theorem d_Pad_init_12 : decode b_Pad_init 12 = .ok (.return_, 1) := by decide +kernel
def μ_Pad_init : ax_M := (b_Pad_init, 1, "DotConsole$Pad", none, 1, 12, 1, 6)
theorem YI_Pad : ax_Y μ_Pad_init y_Pad_init 0 := ⟨ax_mem (by decide +kernel) rfl, ax_mem (by decide +kernel) rfl, by decide, by decide, by decide +kernel⟩
theorem km_Pad_3 : Cond.methodLink "DotConsole$Pad" 3 objectInit ∈ ax_T := ax_mem (by decide +kernel) rfl
set_option maxHeartbeats 2000000 in
theorem c_Pad_init {g : ax_G} (h0 : Nat) : ax_CV μ_Pad_init g y_Pad_init id [.ref h0] [(h0, .inr (7, [.null]))] (fun u => ∃ (q1 : Nat), u = [(h0, .inr (7, [.ref q1])), (q1, .inl (g.2.2.1 0, 6, .inl (fun _ => 0)))]) := by
  refine ax_CV.of (plainFor_of_name rfl) rfl (Nat.le_of_ble_eq_true rfl) (fun x A hname => ?_)
  show AW x μ_Pad_init g A id (0, 0) _ 0 [(0, .ref h0)] [] [(h0, .inr (7, [.null]))]
  refine aw_aload_n (n := 1) d_Pad_init_0 rfl rfl 0 rfl ?_
  refine an_obj (n := 4) km_Pad_3 (by decide) (Nat.le_of_ble_eq_true rfl) d_Pad_init_1 rfl ?_
  refine aw_aload_n (n := 5) d_Pad_init_4 rfl rfl 0 rfl ?_
  refine aw_bipush (n := 7) (v := 6) d_Pad_init_5 rfl (by decide) ?_
  refine an_newi (n := 9) (N := 6) (kk2 := (1, 6)) (by decide) (by decide) (by decide) (by decide) (by decide) rfl d_Pad_init_7 rfl (fun q1 => ?_)
  refine an_ws (ws2 := [(h0, .inr (7, [.null])), (q1, .inl (g.2.2.1 0, 6, .inl (fun _ => 0)))]) rfl ?_
  refine an_putF (n := 12) (C := R_Pad) (T := F_Pad) (N := 1) (ci := 7) (ty := (.array .int)) 0 rfl rfl 0 (by decide) ty_Pad ty_Pad_ok nm_Pad rfl rfl rfl rfl (Nat.le_of_ble_eq_true rfl) i_Pad rfl hname kf_Pad_9 d_Pad_init_9 rfl ?_
  refine an_ws (ws2 := [(h0, .inr (7, [.ref q1])), (q1, .inl (g.2.2.1 0, 6, .inl (fun _ => 0)))]) rfl ?_
  exact aw_vret d_Pad_init_12 rfl ⟨q1, rfl⟩
abbrev b_LineReader_init : ByteArray := prog_2_method_1_code
def y_LineReader_init : MethodName := ⟨"DotConsole$LineReader", "<init>", "(LDotConsole$Tokens;LDotConsole$Names;)V"⟩
theorem d_LineReader_init_0 : decode b_LineReader_init 0 = .ok (.aload_n 0, 1) := by decide +kernel
theorem d_LineReader_init_1 : decode b_LineReader_init 1 = .ok (.invokespecial 3, 3) := by decide +kernel
theorem d_LineReader_init_4 : decode b_LineReader_init 4 = .ok (.aload_n 0, 1) := by decide +kernel
theorem d_LineReader_init_5 : decode b_LineReader_init 5 = .ok (.bipush 48, 2) := by decide +kernel
theorem d_LineReader_init_7 : decode b_LineReader_init 7 = .ok (.newarray .int, 2) := by decide +kernel
theorem d_LineReader_init_9 : decode b_LineReader_init 9 = .ok (.putfield 9, 3) := by decide +kernel
theorem d_LineReader_init_12 : decode b_LineReader_init 12 = .ok (.aload_n 0, 1) := by decide +kernel
theorem d_LineReader_init_13 : decode b_LineReader_init 13 = .ok (.bipush 48, 2) := by decide +kernel
theorem d_LineReader_init_15 : decode b_LineReader_init 15 = .ok (.newarray .int, 2) := by decide +kernel
theorem d_LineReader_init_17 : decode b_LineReader_init 17 = .ok (.putfield 15, 3) := by decide +kernel
theorem d_LineReader_init_20 : decode b_LineReader_init 20 = .ok (.aload_n 0, 1) := by decide +kernel
theorem d_LineReader_init_21 : decode b_LineReader_init 21 = .ok (.bipush 48, 2) := by decide +kernel
theorem d_LineReader_init_23 : decode b_LineReader_init 23 = .ok (.newarray .int, 2) := by decide +kernel
theorem d_LineReader_init_25 : decode b_LineReader_init 25 = .ok (.putfield 18, 3) := by decide +kernel
theorem d_LineReader_init_28 : decode b_LineReader_init 28 = .ok (.aload_n 0, 1) := by decide +kernel
theorem d_LineReader_init_29 : decode b_LineReader_init 29 = .ok (.bipush 48, 2) := by decide +kernel
theorem d_LineReader_init_31 : decode b_LineReader_init 31 = .ok (.newarray .int, 2) := by decide +kernel
theorem d_LineReader_init_33 : decode b_LineReader_init 33 = .ok (.putfield 21, 3) := by decide +kernel
theorem d_LineReader_init_36 : decode b_LineReader_init 36 = .ok (.aload_n 0, 1) := by decide +kernel
theorem d_LineReader_init_37 : decode b_LineReader_init 37 = .ok (.bipush 48, 2) := by decide +kernel
theorem d_LineReader_init_39 : decode b_LineReader_init 39 = .ok (.newarray .int, 2) := by decide +kernel
theorem d_LineReader_init_41 : decode b_LineReader_init 41 = .ok (.putfield 24, 3) := by decide +kernel
theorem d_LineReader_init_44 : decode b_LineReader_init 44 = .ok (.aload_n 0, 1) := by decide +kernel
theorem d_LineReader_init_45 : decode b_LineReader_init 45 = .ok (.bipush 48, 2) := by decide +kernel
theorem d_LineReader_init_47 : decode b_LineReader_init 47 = .ok (.newarray .int, 2) := by decide +kernel
theorem d_LineReader_init_49 : decode b_LineReader_init 49 = .ok (.putfield 27, 3) := by decide +kernel
theorem d_LineReader_init_52 : decode b_LineReader_init 52 = .ok (.aload_n 0, 1) := by decide +kernel
theorem d_LineReader_init_53 : decode b_LineReader_init 53 = .ok (.aload_n 1, 1) := by decide +kernel
theorem d_LineReader_init_54 : decode b_LineReader_init 54 = .ok (.putfield 30, 3) := by decide +kernel
theorem d_LineReader_init_57 : decode b_LineReader_init 57 = .ok (.aload_n 0, 1) := by decide +kernel
theorem d_LineReader_init_58 : decode b_LineReader_init 58 = .ok (.aload_n 2, 1) := by decide +kernel
theorem d_LineReader_init_59 : decode b_LineReader_init 59 = .ok (.putfield 34, 3) := by decide +kernel
theorem d_LineReader_init_62 : decode b_LineReader_init 62 = .ok (.return_, 1) := by decide +kernel
def μ_LineReader_init : ax_M := (b_LineReader_init, 3, "DotConsole$LineReader", none, 1, 12, 6, 288)
theorem YI_LineReader : ax_Y μ_LineReader_init y_LineReader_init 2 := ⟨ax_mem (by decide +kernel) rfl, ax_mem (by decide +kernel) rfl, by decide, by decide, by decide +kernel⟩
theorem km_LineReader_3 : Cond.methodLink "DotConsole$LineReader" 3 objectInit ∈ ax_T := ax_mem (by decide +kernel) rfl
set_option maxHeartbeats 2000000 in
theorem c_LineReader_init {g : ax_G} (h0 : Nat) (a1 : Nat) (a2 : Nat) : ax_CV μ_LineReader_init g y_LineReader_init id [.ref h0, .ref a1, .ref a2] [(h0, .inr (3, [.null, .null, .int 0, .int 0, .int 0, .null, .null, .int 0, .null, .int 0, .int 0, .null, .null, .null, .int 0, .int 0, .int 0]))] (fun u => ∃ (q1 : Nat) (q2 : Nat) (q3 : Nat) (q4 : Nat) (q5 : Nat) (q6 : Nat), u = [(h0, .inr (3, [.ref a1, .ref a2, .int 0, .int 0, .int 0, .ref q1, .ref q2, .int 0, .ref q3, .int 0, .int 0, .ref q4, .ref q5, .ref q6, .int 0, .int 0, .int 0])), (q1, .inl (g.2.2.1 0, 48, .inl (fun _ => 0))), (q2, .inl (g.2.2.1 0, 48, .inl (fun _ => 0))), (q3, .inl (g.2.2.1 0, 48, .inl (fun _ => 0))), (q4, .inl (g.2.2.1 0, 48, .inl (fun _ => 0))), (q5, .inl (g.2.2.1 0, 48, .inl (fun _ => 0))), (q6, .inl (g.2.2.1 0, 48, .inl (fun _ => 0)))]) := by
  refine ax_CV.of (plainFor_of_name rfl) rfl (Nat.le_of_ble_eq_true rfl) (fun x A hname => ?_)
  show AW x μ_LineReader_init g A id (0, 0) _ 0 [(0, .ref h0), (1, .ref a1), (2, .ref a2)] [] [(h0, .inr (3, [.null, .null, .int 0, .int 0, .int 0, .null, .null, .int 0, .null, .int 0, .int 0, .null, .null, .null, .int 0, .int 0, .int 0]))]
  refine aw_aload_n (n := 1) d_LineReader_init_0 rfl rfl 0 rfl ?_
  refine an_obj (n := 4) km_LineReader_3 (by decide) (Nat.le_of_ble_eq_true rfl) d_LineReader_init_1 rfl ?_
  refine aw_aload_n (n := 5) d_LineReader_init_4 rfl rfl 0 rfl ?_
  refine aw_bipush (n := 7) (v := 48) d_LineReader_init_5 rfl (by decide) ?_
  refine an_newi (n := 9) (N := 48) (kk2 := (1, 48)) (by decide) (by decide) (by decide) (by decide) (by decide) rfl d_LineReader_init_7 rfl (fun q1 => ?_)
  refine an_ws (ws2 := [(h0, .inr (3, [.null, .null, .int 0, .int 0, .int 0, .null, .null, .int 0, .null, .int 0, .int 0, .null, .null, .null, .int 0, .int 0, .int 0])), (q1, .inl (g.2.2.1 0, 48, .inl (fun _ => 0)))]) rfl ?_
  refine an_putF (n := 12) (C := R_LineReader) (T := F_LineReader) (N := 17) (ci := 3) (ty := (.array .int)) 0 rfl rfl 5 (by decide) ty_LineReader ty_LineReader_ok nm_LineReader rfl rfl rfl rfl (Nat.le_of_ble_eq_true rfl) i_LineReader rfl hname kf_LineReader_9 d_LineReader_init_9 rfl ?_
  refine an_ws (ws2 := [(h0, .inr (3, [.null, .null, .int 0, .int 0, .int 0, .ref q1, .null, .int 0, .null, .int 0, .int 0, .null, .null, .null, .int 0, .int 0, .int 0])), (q1, .inl (g.2.2.1 0, 48, .inl (fun _ => 0)))]) rfl ?_
  refine aw_aload_n (n := 13) d_LineReader_init_12 rfl rfl 0 rfl ?_
  refine aw_bipush (n := 15) (v := 48) d_LineReader_init_13 rfl (by decide) ?_
  refine an_newi (n := 17) (N := 48) (kk2 := (2, 96)) (by decide) (by decide) (by decide) (by decide) (by decide) rfl d_LineReader_init_15 rfl (fun q2 => ?_)
  refine an_ws (ws2 := [(h0, .inr (3, [.null, .null, .int 0, .int 0, .int 0, .ref q1, .null, .int 0, .null, .int 0, .int 0, .null, .null, .null, .int 0, .int 0, .int 0])), (q1, .inl (g.2.2.1 0, 48, .inl (fun _ => 0))), (q2, .inl (g.2.2.1 0, 48, .inl (fun _ => 0)))]) rfl ?_
  refine an_putF (n := 20) (C := R_LineReader) (T := F_LineReader) (N := 17) (ci := 3) (ty := (.array .int)) 0 rfl rfl 6 (by decide) ty_LineReader ty_LineReader_ok nm_LineReader rfl rfl rfl rfl (Nat.le_of_ble_eq_true rfl) i_LineReader rfl hname kf_LineReader_15 d_LineReader_init_17 rfl ?_
  refine an_ws (ws2 := [(h0, .inr (3, [.null, .null, .int 0, .int 0, .int 0, .ref q1, .ref q2, .int 0, .null, .int 0, .int 0, .null, .null, .null, .int 0, .int 0, .int 0])), (q1, .inl (g.2.2.1 0, 48, .inl (fun _ => 0))), (q2, .inl (g.2.2.1 0, 48, .inl (fun _ => 0)))]) rfl ?_
  refine aw_aload_n (n := 21) d_LineReader_init_20 rfl rfl 0 rfl ?_
  refine aw_bipush (n := 23) (v := 48) d_LineReader_init_21 rfl (by decide) ?_
  refine an_newi (n := 25) (N := 48) (kk2 := (3, 144)) (by decide) (by decide) (by decide) (by decide) (by decide) rfl d_LineReader_init_23 rfl (fun q3 => ?_)
  refine an_ws (ws2 := [(h0, .inr (3, [.null, .null, .int 0, .int 0, .int 0, .ref q1, .ref q2, .int 0, .null, .int 0, .int 0, .null, .null, .null, .int 0, .int 0, .int 0])), (q1, .inl (g.2.2.1 0, 48, .inl (fun _ => 0))), (q2, .inl (g.2.2.1 0, 48, .inl (fun _ => 0))), (q3, .inl (g.2.2.1 0, 48, .inl (fun _ => 0)))]) rfl ?_
  refine an_putF (n := 28) (C := R_LineReader) (T := F_LineReader) (N := 17) (ci := 3) (ty := (.array .int)) 0 rfl rfl 8 (by decide) ty_LineReader ty_LineReader_ok nm_LineReader rfl rfl rfl rfl (Nat.le_of_ble_eq_true rfl) i_LineReader rfl hname kf_LineReader_18 d_LineReader_init_25 rfl ?_
  refine an_ws (ws2 := [(h0, .inr (3, [.null, .null, .int 0, .int 0, .int 0, .ref q1, .ref q2, .int 0, .ref q3, .int 0, .int 0, .null, .null, .null, .int 0, .int 0, .int 0])), (q1, .inl (g.2.2.1 0, 48, .inl (fun _ => 0))), (q2, .inl (g.2.2.1 0, 48, .inl (fun _ => 0))), (q3, .inl (g.2.2.1 0, 48, .inl (fun _ => 0)))]) rfl ?_
  refine aw_aload_n (n := 29) d_LineReader_init_28 rfl rfl 0 rfl ?_
  refine aw_bipush (n := 31) (v := 48) d_LineReader_init_29 rfl (by decide) ?_
  refine an_newi (n := 33) (N := 48) (kk2 := (4, 192)) (by decide) (by decide) (by decide) (by decide) (by decide) rfl d_LineReader_init_31 rfl (fun q4 => ?_)
  refine an_ws (ws2 := [(h0, .inr (3, [.null, .null, .int 0, .int 0, .int 0, .ref q1, .ref q2, .int 0, .ref q3, .int 0, .int 0, .null, .null, .null, .int 0, .int 0, .int 0])), (q1, .inl (g.2.2.1 0, 48, .inl (fun _ => 0))), (q2, .inl (g.2.2.1 0, 48, .inl (fun _ => 0))), (q3, .inl (g.2.2.1 0, 48, .inl (fun _ => 0))), (q4, .inl (g.2.2.1 0, 48, .inl (fun _ => 0)))]) rfl ?_
  refine an_putF (n := 36) (C := R_LineReader) (T := F_LineReader) (N := 17) (ci := 3) (ty := (.array .int)) 0 rfl rfl 11 (by decide) ty_LineReader ty_LineReader_ok nm_LineReader rfl rfl rfl rfl (Nat.le_of_ble_eq_true rfl) i_LineReader rfl hname kf_LineReader_21 d_LineReader_init_33 rfl ?_
  refine an_ws (ws2 := [(h0, .inr (3, [.null, .null, .int 0, .int 0, .int 0, .ref q1, .ref q2, .int 0, .ref q3, .int 0, .int 0, .ref q4, .null, .null, .int 0, .int 0, .int 0])), (q1, .inl (g.2.2.1 0, 48, .inl (fun _ => 0))), (q2, .inl (g.2.2.1 0, 48, .inl (fun _ => 0))), (q3, .inl (g.2.2.1 0, 48, .inl (fun _ => 0))), (q4, .inl (g.2.2.1 0, 48, .inl (fun _ => 0)))]) rfl ?_
  refine aw_aload_n (n := 37) d_LineReader_init_36 rfl rfl 0 rfl ?_
  refine aw_bipush (n := 39) (v := 48) d_LineReader_init_37 rfl (by decide) ?_
  refine an_newi (n := 41) (N := 48) (kk2 := (5, 240)) (by decide) (by decide) (by decide) (by decide) (by decide) rfl d_LineReader_init_39 rfl (fun q5 => ?_)
  refine an_ws (ws2 := [(h0, .inr (3, [.null, .null, .int 0, .int 0, .int 0, .ref q1, .ref q2, .int 0, .ref q3, .int 0, .int 0, .ref q4, .null, .null, .int 0, .int 0, .int 0])), (q1, .inl (g.2.2.1 0, 48, .inl (fun _ => 0))), (q2, .inl (g.2.2.1 0, 48, .inl (fun _ => 0))), (q3, .inl (g.2.2.1 0, 48, .inl (fun _ => 0))), (q4, .inl (g.2.2.1 0, 48, .inl (fun _ => 0))), (q5, .inl (g.2.2.1 0, 48, .inl (fun _ => 0)))]) rfl ?_
  refine an_putF (n := 44) (C := R_LineReader) (T := F_LineReader) (N := 17) (ci := 3) (ty := (.array .int)) 0 rfl rfl 12 (by decide) ty_LineReader ty_LineReader_ok nm_LineReader rfl rfl rfl rfl (Nat.le_of_ble_eq_true rfl) i_LineReader rfl hname kf_LineReader_24 d_LineReader_init_41 rfl ?_
  refine an_ws (ws2 := [(h0, .inr (3, [.null, .null, .int 0, .int 0, .int 0, .ref q1, .ref q2, .int 0, .ref q3, .int 0, .int 0, .ref q4, .ref q5, .null, .int 0, .int 0, .int 0])), (q1, .inl (g.2.2.1 0, 48, .inl (fun _ => 0))), (q2, .inl (g.2.2.1 0, 48, .inl (fun _ => 0))), (q3, .inl (g.2.2.1 0, 48, .inl (fun _ => 0))), (q4, .inl (g.2.2.1 0, 48, .inl (fun _ => 0))), (q5, .inl (g.2.2.1 0, 48, .inl (fun _ => 0)))]) rfl ?_
  refine aw_aload_n (n := 45) d_LineReader_init_44 rfl rfl 0 rfl ?_
  refine aw_bipush (n := 47) (v := 48) d_LineReader_init_45 rfl (by decide) ?_
  refine an_newi (n := 49) (N := 48) (kk2 := (6, 288)) (by decide) (by decide) (by decide) (by decide) (by decide) rfl d_LineReader_init_47 rfl (fun q6 => ?_)
  refine an_ws (ws2 := [(h0, .inr (3, [.null, .null, .int 0, .int 0, .int 0, .ref q1, .ref q2, .int 0, .ref q3, .int 0, .int 0, .ref q4, .ref q5, .null, .int 0, .int 0, .int 0])), (q1, .inl (g.2.2.1 0, 48, .inl (fun _ => 0))), (q2, .inl (g.2.2.1 0, 48, .inl (fun _ => 0))), (q3, .inl (g.2.2.1 0, 48, .inl (fun _ => 0))), (q4, .inl (g.2.2.1 0, 48, .inl (fun _ => 0))), (q5, .inl (g.2.2.1 0, 48, .inl (fun _ => 0))), (q6, .inl (g.2.2.1 0, 48, .inl (fun _ => 0)))]) rfl ?_
  refine an_putF (n := 52) (C := R_LineReader) (T := F_LineReader) (N := 17) (ci := 3) (ty := (.array .int)) 0 rfl rfl 13 (by decide) ty_LineReader ty_LineReader_ok nm_LineReader rfl rfl rfl rfl (Nat.le_of_ble_eq_true rfl) i_LineReader rfl hname kf_LineReader_27 d_LineReader_init_49 rfl ?_
  refine an_ws (ws2 := [(h0, .inr (3, [.null, .null, .int 0, .int 0, .int 0, .ref q1, .ref q2, .int 0, .ref q3, .int 0, .int 0, .ref q4, .ref q5, .ref q6, .int 0, .int 0, .int 0])), (q1, .inl (g.2.2.1 0, 48, .inl (fun _ => 0))), (q2, .inl (g.2.2.1 0, 48, .inl (fun _ => 0))), (q3, .inl (g.2.2.1 0, 48, .inl (fun _ => 0))), (q4, .inl (g.2.2.1 0, 48, .inl (fun _ => 0))), (q5, .inl (g.2.2.1 0, 48, .inl (fun _ => 0))), (q6, .inl (g.2.2.1 0, 48, .inl (fun _ => 0)))]) rfl ?_
  refine aw_aload_n (n := 53) d_LineReader_init_52 rfl rfl 0 rfl ?_
  refine aw_aload_n (n := 54) d_LineReader_init_53 rfl rfl 1 rfl ?_
  refine an_putF (n := 57) (C := R_LineReader) (T := F_LineReader) (N := 17) (ci := 3) (ty := (.object "DotConsole$Tokens")) 0 rfl rfl 0 (by decide) ty_LineReader ty_LineReader_ok nm_LineReader rfl rfl rfl rfl (Nat.le_of_ble_eq_true rfl) i_LineReader rfl hname kf_LineReader_30 d_LineReader_init_54 rfl ?_
  refine an_ws (ws2 := [(h0, .inr (3, [.ref a1, .null, .int 0, .int 0, .int 0, .ref q1, .ref q2, .int 0, .ref q3, .int 0, .int 0, .ref q4, .ref q5, .ref q6, .int 0, .int 0, .int 0])), (q1, .inl (g.2.2.1 0, 48, .inl (fun _ => 0))), (q2, .inl (g.2.2.1 0, 48, .inl (fun _ => 0))), (q3, .inl (g.2.2.1 0, 48, .inl (fun _ => 0))), (q4, .inl (g.2.2.1 0, 48, .inl (fun _ => 0))), (q5, .inl (g.2.2.1 0, 48, .inl (fun _ => 0))), (q6, .inl (g.2.2.1 0, 48, .inl (fun _ => 0)))]) rfl ?_
  refine aw_aload_n (n := 58) d_LineReader_init_57 rfl rfl 0 rfl ?_
  refine aw_aload_n (n := 59) d_LineReader_init_58 rfl rfl 2 rfl ?_
  refine an_putF (n := 62) (C := R_LineReader) (T := F_LineReader) (N := 17) (ci := 3) (ty := (.object "DotConsole$Names")) 0 rfl rfl 1 (by decide) ty_LineReader ty_LineReader_ok nm_LineReader rfl rfl rfl rfl (Nat.le_of_ble_eq_true rfl) i_LineReader rfl hname kf_LineReader_34 d_LineReader_init_59 rfl ?_
  refine an_ws (ws2 := [(h0, .inr (3, [.ref a1, .ref a2, .int 0, .int 0, .int 0, .ref q1, .ref q2, .int 0, .ref q3, .int 0, .int 0, .ref q4, .ref q5, .ref q6, .int 0, .int 0, .int 0])), (q1, .inl (g.2.2.1 0, 48, .inl (fun _ => 0))), (q2, .inl (g.2.2.1 0, 48, .inl (fun _ => 0))), (q3, .inl (g.2.2.1 0, 48, .inl (fun _ => 0))), (q4, .inl (g.2.2.1 0, 48, .inl (fun _ => 0))), (q5, .inl (g.2.2.1 0, 48, .inl (fun _ => 0))), (q6, .inl (g.2.2.1 0, 48, .inl (fun _ => 0)))]) rfl ?_
  exact aw_vret d_LineReader_init_62 rfl ⟨q1, q2, q3, q4, q5, q6, rfl⟩
abbrev b_Machine_init : ByteArray := prog_3_method_1_code
def y_Machine_init : MethodName := ⟨"DotConsole$Machine", "<init>", "(LDotConsole$Program;)V"⟩
theorem d_Machine_init_0 : decode b_Machine_init 0 = .ok (.aload_n 0, 1) := by decide +kernel
theorem d_Machine_init_1 : decode b_Machine_init 1 = .ok (.invokespecial 3, 3) := by decide +kernel
theorem d_Machine_init_4 : decode b_Machine_init 4 = .ok (.aload_n 0, 1) := by decide +kernel
theorem d_Machine_init_5 : decode b_Machine_init 5 = .ok (.new 9, 3) := by decide +kernel
theorem d_Machine_init_8 : decode b_Machine_init 8 = .ok (.dup, 1) := by decide +kernel
theorem d_Machine_init_9 : decode b_Machine_init 9 = .ok (.invokespecial 11, 3) := by decide +kernel
theorem d_Machine_init_12 : decode b_Machine_init 12 = .ok (.putfield 12, 3) := by decide +kernel
theorem d_Machine_init_15 : decode b_Machine_init 15 = .ok (.aload_n 0, 1) := by decide +kernel
theorem d_Machine_init_16 : decode b_Machine_init 16 = .ok (.new 18, 3) := by decide +kernel
theorem d_Machine_init_19 : decode b_Machine_init 19 = .ok (.dup, 1) := by decide +kernel
theorem d_Machine_init_20 : decode b_Machine_init 20 = .ok (.invokespecial 20, 3) := by decide +kernel
theorem d_Machine_init_23 : decode b_Machine_init 23 = .ok (.putfield 21, 3) := by decide +kernel
theorem d_Machine_init_26 : decode b_Machine_init 26 = .ok (.aload_n 0, 1) := by decide +kernel
theorem d_Machine_init_27 : decode b_Machine_init 27 = .ok (.bipush 12, 2) := by decide +kernel
theorem d_Machine_init_29 : decode b_Machine_init 29 = .ok (.newarray .int, 2) := by decide +kernel
theorem d_Machine_init_31 : decode b_Machine_init 31 = .ok (.putfield 25, 3) := by decide +kernel
theorem d_Machine_init_34 : decode b_Machine_init 34 = .ok (.aload_n 0, 1) := by decide +kernel
theorem d_Machine_init_35 : decode b_Machine_init 35 = .ok (.bipush 32, 2) := by decide +kernel
theorem d_Machine_init_37 : decode b_Machine_init 37 = .ok (.newarray .int, 2) := by decide +kernel
theorem d_Machine_init_39 : decode b_Machine_init 39 = .ok (.putfield 29, 3) := by decide +kernel
theorem d_Machine_init_42 : decode b_Machine_init 42 = .ok (.aload_n 0, 1) := by decide +kernel
theorem d_Machine_init_43 : decode b_Machine_init 43 = .ok (.iconst 1, 1) := by decide +kernel
theorem d_Machine_init_44 : decode b_Machine_init 44 = .ok (.putfield 32, 3) := by decide +kernel
theorem d_Machine_init_47 : decode b_Machine_init 47 = .ok (.aload_n 0, 1) := by decide +kernel
theorem d_Machine_init_48 : decode b_Machine_init 48 = .ok (.bipush 16, 2) := by decide +kernel
theorem d_Machine_init_50 : decode b_Machine_init 50 = .ok (.newarray .int, 2) := by decide +kernel
theorem d_Machine_init_52 : decode b_Machine_init 52 = .ok (.putfield 36, 3) := by decide +kernel
theorem d_Machine_init_55 : decode b_Machine_init 55 = .ok (.aload_n 0, 1) := by decide +kernel
theorem d_Machine_init_56 : decode b_Machine_init 56 = .ok (.aload_n 1, 1) := by decide +kernel
theorem d_Machine_init_57 : decode b_Machine_init 57 = .ok (.putfield 39, 3) := by decide +kernel
theorem d_Machine_init_60 : decode b_Machine_init 60 = .ok (.return_, 1) := by decide +kernel
def μ_Machine_init : ax_M := (b_Machine_init, 2, "DotConsole$Machine", none, 2, 32, 7, 324)
theorem YI_Machine : ax_Y μ_Machine_init y_Machine_init 1 := ⟨ax_mem (by decide +kernel) rfl, ax_mem (by decide +kernel) rfl, by decide, by decide, by decide +kernel⟩
theorem km_Machine_3 : Cond.methodLink "DotConsole$Machine" 3 objectInit ∈ ax_T := ax_mem (by decide +kernel) rfl
theorem kl_Machine_9 : Cond.classLink "DotConsole$Machine" 9 "DotConsole$Screen" ∈ ax_T := ax_mem (by decide +kernel) rfl
theorem k_in_Screen : Cond.instantiable R_Screen 1 ∈ ax_T := ax_mem (by decide +kernel) rfl
theorem k_it_Screen : Cond.initialized R_Screen ∈ ax_T := ax_mem (by decide +kernel) rfl
theorem k_im_Screen : Cond.instanceMethod y_Screen_init ∈ ax_T := ax_mem (by decide +kernel) rfl
theorem km_Machine_11 : Cond.methodLinkNest "DotConsole$Machine" 11 ⟨"DotConsole$Screen", "<init>", "()V"⟩ "DotConsole" ∈ ax_N := by decide +kernel
theorem kl_Machine_18 : Cond.classLink "DotConsole$Machine" 18 "DotConsole$Pad" ∈ ax_T := ax_mem (by decide +kernel) rfl
theorem k_in_Pad : Cond.instantiable R_Pad 1 ∈ ax_T := ax_mem (by decide +kernel) rfl
theorem k_it_Pad : Cond.initialized R_Pad ∈ ax_T := ax_mem (by decide +kernel) rfl
theorem k_im_Pad : Cond.instanceMethod y_Pad_init ∈ ax_T := ax_mem (by decide +kernel) rfl
theorem km_Machine_20 : Cond.methodLinkNest "DotConsole$Machine" 20 ⟨"DotConsole$Pad", "<init>", "()V"⟩ "DotConsole" ∈ ax_N := by decide +kernel
set_option maxHeartbeats 2000000 in
theorem c_Machine_init {g : ax_G} (h0 : Nat) (a1 : Nat) : ax_CV μ_Machine_init g y_Machine_init id [.ref h0, .ref a1] [(h0, .inr (5, [.null, .null, .null, .null, .null, .int 0, .int 0, .int 0, .null, .int 0]))] (fun u => ∃ (q1 : Nat) (q2 : Nat) (q3 : Nat) (q4 : Nat) (q5 : Nat) (q6 : Nat) (q7 : Nat), u = [(h0, .inr (5, [.ref a1, .ref q1, .ref q3, .ref q5, .ref q6, .int 1, .int 0, .int 0, .ref q7, .int 0])), (q1, .inr (6, [.ref q2])), (q2, .inl (g.2.2.1 0, 256, .inl (fun _ => 0))), (q3, .inr (7, [.ref q4])), (q4, .inl (g.2.2.1 0, 6, .inl (fun _ => 0))), (q5, .inl (g.2.2.1 0, 12, .inl (fun _ => 0))), (q6, .inl (g.2.2.1 0, 32, .inl (fun _ => 0))), (q7, .inl (g.2.2.1 0, 16, .inl (fun _ => 0)))]) := by
  refine ax_CV.of (plainFor_of_name rfl) rfl (Nat.le_of_ble_eq_true rfl) (fun x A hname => ?_)
  show AW x μ_Machine_init g A id (0, 0) _ 0 [(0, .ref h0), (1, .ref a1)] [] [(h0, .inr (5, [.null, .null, .null, .null, .null, .int 0, .int 0, .int 0, .null, .int 0]))]
  refine aw_aload_n (n := 1) d_Machine_init_0 rfl rfl 0 rfl ?_
  refine an_obj (n := 4) km_Machine_3 (by decide) (Nat.le_of_ble_eq_true rfl) d_Machine_init_1 rfl ?_
  refine aw_aload_n (n := 5) d_Machine_init_4 rfl rfl 0 rfl ?_
  refine an_new (n := 8) (C := R_Screen) (T := F_Screen) (N := 1) (ci := 6) (fs := [.null]) (kk2 := (1, 1)) ty_Screen ty_Screen_ok i_Screen kl_Machine_9 k_in_Screen k_it_Screen rfl (by decide +kernel) (by decide) (by decide) rfl d_Machine_init_5 rfl (fun q1 => ?_)
  refine an_ws (ws2 := [(h0, .inr (5, [.null, .null, .null, .null, .null, .int 0, .int 0, .int 0, .null, .int 0])), (q1, .inr (6, [.null]))]) rfl ?_
  refine aw_dup (n := 9) d_Machine_init_8 rfl rfl ?_
  refine an_callIN (n := 12) (kk2 := (2, 257)) (wc := [(q1, .inr (6, [.null]))]) (wr := [(h0, .inr (5, [.null, .null, .null, .null, .null, .int 0, .int 0, .int 0, .null, .int 0]))]) (c_Screen_init q1) [1] [0] rfl rfl rfl rfl (by decide) YI_Screen k_im_Screen rfl km_Machine_11 rfl (by decide) (by decide) (by decide) (by decide) rfl rfl (Nat.le_of_ble_eq_true rfl) d_Machine_init_9 rfl (fun u hu => ?_)
  obtain ⟨q2, rfl⟩ := hu
  refine an_ws (ws2 := [(h0, .inr (5, [.null, .null, .null, .null, .null, .int 0, .int 0, .int 0, .null, .int 0])), (q1, .inr (6, [.ref q2])), (q2, .inl (g.2.2.1 0, 256, .inl (fun _ => 0)))]) rfl ?_
  refine an_putF (n := 15) (C := R_Machine) (T := F_Machine) (N := 10) (ci := 5) (ty := (.object "DotConsole$Screen")) 0 rfl rfl 1 (by decide) ty_Machine ty_Machine_ok nm_Machine rfl rfl rfl rfl (Nat.le_of_ble_eq_true rfl) i_Machine rfl hname kf_Machine_12 d_Machine_init_12 rfl ?_
  refine an_ws (ws2 := [(h0, .inr (5, [.null, .ref q1, .null, .null, .null, .int 0, .int 0, .int 0, .null, .int 0])), (q1, .inr (6, [.ref q2])), (q2, .inl (g.2.2.1 0, 256, .inl (fun _ => 0)))]) rfl ?_
  refine aw_aload_n (n := 16) d_Machine_init_15 rfl rfl 0 rfl ?_
  refine an_new (n := 19) (C := R_Pad) (T := F_Pad) (N := 1) (ci := 7) (fs := [.null]) (kk2 := (3, 258)) ty_Pad ty_Pad_ok i_Pad kl_Machine_18 k_in_Pad k_it_Pad rfl (by decide +kernel) (by decide) (by decide) rfl d_Machine_init_16 rfl (fun q3 => ?_)
  refine an_ws (ws2 := [(h0, .inr (5, [.null, .ref q1, .null, .null, .null, .int 0, .int 0, .int 0, .null, .int 0])), (q1, .inr (6, [.ref q2])), (q2, .inl (g.2.2.1 0, 256, .inl (fun _ => 0))), (q3, .inr (7, [.null]))]) rfl ?_
  refine aw_dup (n := 20) d_Machine_init_19 rfl rfl ?_
  refine an_callIN (n := 23) (kk2 := (4, 264)) (wc := [(q3, .inr (7, [.null]))]) (wr := [(h0, .inr (5, [.null, .ref q1, .null, .null, .null, .int 0, .int 0, .int 0, .null, .int 0])), (q1, .inr (6, [.ref q2])), (q2, .inl (g.2.2.1 0, 256, .inl (fun _ => 0)))]) (c_Pad_init q3) [3] [0, 1, 2] rfl rfl rfl rfl (by decide) YI_Pad k_im_Pad rfl km_Machine_20 rfl (by decide) (by decide) (by decide) (by decide) rfl rfl (Nat.le_of_ble_eq_true rfl) d_Machine_init_20 rfl (fun u hu => ?_)
  obtain ⟨q4, rfl⟩ := hu
  refine an_ws (ws2 := [(h0, .inr (5, [.null, .ref q1, .null, .null, .null, .int 0, .int 0, .int 0, .null, .int 0])), (q1, .inr (6, [.ref q2])), (q2, .inl (g.2.2.1 0, 256, .inl (fun _ => 0))), (q3, .inr (7, [.ref q4])), (q4, .inl (g.2.2.1 0, 6, .inl (fun _ => 0)))]) rfl ?_
  refine an_putF (n := 26) (C := R_Machine) (T := F_Machine) (N := 10) (ci := 5) (ty := (.object "DotConsole$Pad")) 0 rfl rfl 2 (by decide) ty_Machine ty_Machine_ok nm_Machine rfl rfl rfl rfl (Nat.le_of_ble_eq_true rfl) i_Machine rfl hname kf_Machine_21 d_Machine_init_23 rfl ?_
  refine an_ws (ws2 := [(h0, .inr (5, [.null, .ref q1, .ref q3, .null, .null, .int 0, .int 0, .int 0, .null, .int 0])), (q1, .inr (6, [.ref q2])), (q2, .inl (g.2.2.1 0, 256, .inl (fun _ => 0))), (q3, .inr (7, [.ref q4])), (q4, .inl (g.2.2.1 0, 6, .inl (fun _ => 0)))]) rfl ?_
  refine aw_aload_n (n := 27) d_Machine_init_26 rfl rfl 0 rfl ?_
  refine aw_bipush (n := 29) (v := 12) d_Machine_init_27 rfl (by decide) ?_
  refine an_newi (n := 31) (N := 12) (kk2 := (5, 276)) (by decide) (by decide) (by decide) (by decide) (by decide) rfl d_Machine_init_29 rfl (fun q5 => ?_)
  refine an_ws (ws2 := [(h0, .inr (5, [.null, .ref q1, .ref q3, .null, .null, .int 0, .int 0, .int 0, .null, .int 0])), (q1, .inr (6, [.ref q2])), (q2, .inl (g.2.2.1 0, 256, .inl (fun _ => 0))), (q3, .inr (7, [.ref q4])), (q4, .inl (g.2.2.1 0, 6, .inl (fun _ => 0))), (q5, .inl (g.2.2.1 0, 12, .inl (fun _ => 0)))]) rfl ?_
  refine an_putF (n := 34) (C := R_Machine) (T := F_Machine) (N := 10) (ci := 5) (ty := (.array .int)) 0 rfl rfl 3 (by decide) ty_Machine ty_Machine_ok nm_Machine rfl rfl rfl rfl (Nat.le_of_ble_eq_true rfl) i_Machine rfl hname kf_Machine_25 d_Machine_init_31 rfl ?_
  refine an_ws (ws2 := [(h0, .inr (5, [.null, .ref q1, .ref q3, .ref q5, .null, .int 0, .int 0, .int 0, .null, .int 0])), (q1, .inr (6, [.ref q2])), (q2, .inl (g.2.2.1 0, 256, .inl (fun _ => 0))), (q3, .inr (7, [.ref q4])), (q4, .inl (g.2.2.1 0, 6, .inl (fun _ => 0))), (q5, .inl (g.2.2.1 0, 12, .inl (fun _ => 0)))]) rfl ?_
  refine aw_aload_n (n := 35) d_Machine_init_34 rfl rfl 0 rfl ?_
  refine aw_bipush (n := 37) (v := 32) d_Machine_init_35 rfl (by decide) ?_
  refine an_newi (n := 39) (N := 32) (kk2 := (6, 308)) (by decide) (by decide) (by decide) (by decide) (by decide) rfl d_Machine_init_37 rfl (fun q6 => ?_)
  refine an_ws (ws2 := [(h0, .inr (5, [.null, .ref q1, .ref q3, .ref q5, .null, .int 0, .int 0, .int 0, .null, .int 0])), (q1, .inr (6, [.ref q2])), (q2, .inl (g.2.2.1 0, 256, .inl (fun _ => 0))), (q3, .inr (7, [.ref q4])), (q4, .inl (g.2.2.1 0, 6, .inl (fun _ => 0))), (q5, .inl (g.2.2.1 0, 12, .inl (fun _ => 0))), (q6, .inl (g.2.2.1 0, 32, .inl (fun _ => 0)))]) rfl ?_
  refine an_putF (n := 42) (C := R_Machine) (T := F_Machine) (N := 10) (ci := 5) (ty := (.array .int)) 0 rfl rfl 4 (by decide) ty_Machine ty_Machine_ok nm_Machine rfl rfl rfl rfl (Nat.le_of_ble_eq_true rfl) i_Machine rfl hname kf_Machine_29 d_Machine_init_39 rfl ?_
  refine an_ws (ws2 := [(h0, .inr (5, [.null, .ref q1, .ref q3, .ref q5, .ref q6, .int 0, .int 0, .int 0, .null, .int 0])), (q1, .inr (6, [.ref q2])), (q2, .inl (g.2.2.1 0, 256, .inl (fun _ => 0))), (q3, .inr (7, [.ref q4])), (q4, .inl (g.2.2.1 0, 6, .inl (fun _ => 0))), (q5, .inl (g.2.2.1 0, 12, .inl (fun _ => 0))), (q6, .inl (g.2.2.1 0, 32, .inl (fun _ => 0)))]) rfl ?_
  refine aw_aload_n (n := 43) d_Machine_init_42 rfl rfl 0 rfl ?_
  refine aw_iconst (n := 44) (v := 1) d_Machine_init_43 rfl (by decide) ?_
  refine an_putS (n := 47) (C := R_Machine) (T := F_Machine) (N := 10) (ci := 5) (ty := .int) 0 rfl rfl 5 (by decide) ty_Machine ty_Machine_ok nm_Machine rfl rfl rfl rfl (Nat.le_of_ble_eq_true rfl) i_Machine kf_Machine_32 d_Machine_init_44 rfl ?_
  refine an_ws (ws2 := [(h0, .inr (5, [.null, .ref q1, .ref q3, .ref q5, .ref q6, .int 1, .int 0, .int 0, .null, .int 0])), (q1, .inr (6, [.ref q2])), (q2, .inl (g.2.2.1 0, 256, .inl (fun _ => 0))), (q3, .inr (7, [.ref q4])), (q4, .inl (g.2.2.1 0, 6, .inl (fun _ => 0))), (q5, .inl (g.2.2.1 0, 12, .inl (fun _ => 0))), (q6, .inl (g.2.2.1 0, 32, .inl (fun _ => 0)))]) rfl ?_
  refine aw_aload_n (n := 48) d_Machine_init_47 rfl rfl 0 rfl ?_
  refine aw_bipush (n := 50) (v := 16) d_Machine_init_48 rfl (by decide) ?_
  refine an_newi (n := 52) (N := 16) (kk2 := (7, 324)) (by decide) (by decide) (by decide) (by decide) (by decide) rfl d_Machine_init_50 rfl (fun q7 => ?_)
  refine an_ws (ws2 := [(h0, .inr (5, [.null, .ref q1, .ref q3, .ref q5, .ref q6, .int 1, .int 0, .int 0, .null, .int 0])), (q1, .inr (6, [.ref q2])), (q2, .inl (g.2.2.1 0, 256, .inl (fun _ => 0))), (q3, .inr (7, [.ref q4])), (q4, .inl (g.2.2.1 0, 6, .inl (fun _ => 0))), (q5, .inl (g.2.2.1 0, 12, .inl (fun _ => 0))), (q6, .inl (g.2.2.1 0, 32, .inl (fun _ => 0))), (q7, .inl (g.2.2.1 0, 16, .inl (fun _ => 0)))]) rfl ?_
  refine an_putF (n := 55) (C := R_Machine) (T := F_Machine) (N := 10) (ci := 5) (ty := (.array .int)) 0 rfl rfl 8 (by decide) ty_Machine ty_Machine_ok nm_Machine rfl rfl rfl rfl (Nat.le_of_ble_eq_true rfl) i_Machine rfl hname kf_Machine_36 d_Machine_init_52 rfl ?_
  refine an_ws (ws2 := [(h0, .inr (5, [.null, .ref q1, .ref q3, .ref q5, .ref q6, .int 1, .int 0, .int 0, .ref q7, .int 0])), (q1, .inr (6, [.ref q2])), (q2, .inl (g.2.2.1 0, 256, .inl (fun _ => 0))), (q3, .inr (7, [.ref q4])), (q4, .inl (g.2.2.1 0, 6, .inl (fun _ => 0))), (q5, .inl (g.2.2.1 0, 12, .inl (fun _ => 0))), (q6, .inl (g.2.2.1 0, 32, .inl (fun _ => 0))), (q7, .inl (g.2.2.1 0, 16, .inl (fun _ => 0)))]) rfl ?_
  refine aw_aload_n (n := 56) d_Machine_init_55 rfl rfl 0 rfl ?_
  refine aw_aload_n (n := 57) d_Machine_init_56 rfl rfl 1 rfl ?_
  refine an_putF (n := 60) (C := R_Machine) (T := F_Machine) (N := 10) (ci := 5) (ty := (.object "DotConsole$Program")) 0 rfl rfl 0 (by decide) ty_Machine ty_Machine_ok nm_Machine rfl rfl rfl rfl (Nat.le_of_ble_eq_true rfl) i_Machine rfl hname kf_Machine_39 d_Machine_init_57 rfl ?_
  refine an_ws (ws2 := [(h0, .inr (5, [.ref a1, .ref q1, .ref q3, .ref q5, .ref q6, .int 1, .int 0, .int 0, .ref q7, .int 0])), (q1, .inr (6, [.ref q2])), (q2, .inl (g.2.2.1 0, 256, .inl (fun _ => 0))), (q3, .inr (7, [.ref q4])), (q4, .inl (g.2.2.1 0, 6, .inl (fun _ => 0))), (q5, .inl (g.2.2.1 0, 12, .inl (fun _ => 0))), (q6, .inl (g.2.2.1 0, 32, .inl (fun _ => 0))), (q7, .inl (g.2.2.1 0, 16, .inl (fun _ => 0)))]) rfl ?_
  exact aw_vret d_Machine_init_60 rfl ⟨q1, q2, q3, q4, q5, q6, q7, rfl⟩
