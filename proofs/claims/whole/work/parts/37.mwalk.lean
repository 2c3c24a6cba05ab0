/-! WALKED: Mod_paint, Mod_floor, Mod_stroke, Mod_box. Printed by wip/whole/build.py. -/
abbrev b_Mod_paint : ByteArray := prog_10_method_29_code
def y_Mod_paint : MethodName := ⟨"DotConsoleModel", "paint", "(IIIZ)V"⟩
theorem d_Mod_paint_0 : decode b_Mod_paint 0 = .ok (.iload 4, 2) := by decide +kernel
theorem d_Mod_paint_2 : decode b_Mod_paint 2 = .ok (.ifCond .eq 23, 3) := by decide +kernel
theorem d_Mod_paint_5 : decode b_Mod_paint 5 = .ok (.iload_n 1, 1) := by decide +kernel
theorem d_Mod_paint_6 : decode b_Mod_paint 6 = .ok (.iload_n 2, 1) := by decide +kernel
theorem d_Mod_paint_7 : decode b_Mod_paint 7 = .ok (.invokestatic 175, 3) := by decide +kernel
theorem d_Mod_paint_10 : decode b_Mod_paint 10 = .ok (.ifCond .eq 15, 3) := by decide +kernel
theorem d_Mod_paint_13 : decode b_Mod_paint 13 = .ok (.aload_n 0, 1) := by decide +kernel
theorem d_Mod_paint_14 : decode b_Mod_paint 14 = .ok (.getfield 45, 3) := by decide +kernel
theorem d_Mod_paint_17 : decode b_Mod_paint 17 = .ok (.bipush 16, 2) := by decide +kernel
theorem d_Mod_paint_19 : decode b_Mod_paint 19 = .ok (.iload_n 2, 1) := by decide +kernel
theorem d_Mod_paint_20 : decode b_Mod_paint 20 = .ok (.imul, 1) := by decide +kernel
theorem d_Mod_paint_21 : decode b_Mod_paint 21 = .ok (.iload_n 1, 1) := by decide +kernel
theorem d_Mod_paint_22 : decode b_Mod_paint 22 = .ok (.iadd, 1) := by decide +kernel
theorem d_Mod_paint_23 : decode b_Mod_paint 23 = .ok (.iload_n 3, 1) := by decide +kernel
theorem d_Mod_paint_24 : decode b_Mod_paint 24 = .ok (.iastore, 1) := by decide +kernel
theorem d_Mod_paint_25 : decode b_Mod_paint 25 = .ok (.return_, 1) := by decide +kernel
def μ_Mod_paint : ax_M := (b_Mod_paint, 5, "DotConsoleModel", none, 1, 21, 0, 0)
theorem Y_Mod_paint : ax_YV μ_Mod_paint y_Mod_paint 4 := ⟨⟨ax_mem (by decide +kernel) rfl, ax_mem (by decide +kernel) rfl, by decide, by decide, by decide +kernel⟩, ax_mem (by decide +kernel) rfl, ax_mem (by decide +kernel) rfl⟩
def J_Mod_paint (N : Nat) (a1 : Int32) (a2 : Int32) (a3 : Int32) (a4 : Int32) (σ : St) : Option St :=
  (if a4 = 0 then
  some σ
  else ax_bind (J_Mod_seen N a1 a2 σ) (fun r1 σ1 =>
  (if r1 = 0 then
  some σ1
  else (if (inB ((16 * a2) + a1) 256) = true then ax_let (sA σ1 10 ((16 * a2) + a1).toNatClampNeg a3) (fun σ2 =>
  some σ2) else none))))
set_option maxHeartbeats 1000000 in
theorem c_Mod_paint {N : Nat} {g : ax_G} {a1 : Int32} {a2 : Int32} {a3 : Int32} {a4 : Int32} {σ : St} {s9 : St} (hJ : J_Mod_paint N a1 a2 a3 a4 σ = some s9) : ax_CV μ_Mod_paint g y_Mod_paint (wM g) [.ref (g.2.1 32), .int a1, .int a2, .int a3, .int a4] σ (ax_eqV s9) := by
  refine ax_CV.of (plainFor_of_name rfl) rfl (Nat.le_of_ble_eq_true rfl) (fun x A _ => ?_)
  show AW x μ_Mod_paint g A (wM g) (0, 0) (ax_QV x μ_Mod_paint g A (wM g) (ax_eqV s9)) 0 [(0, .ref (g.2.1 32)), (1, .int a1), (2, .int a2), (3, .int a3), (4, .int a4)] [] σ
  rw [J_Mod_paint] at hJ
  refine aw_iload (n := 2) d_Mod_paint_0 rfl 4 rfl ?_
  refine aw_if_eq (n := 5) (t := 25) d_Mod_paint_2 rfl (by decide) (fun c1 => ?_) (fun c1 => ?_)
  · rw [if_pos c1] at hJ
    exact aw_vret d_Mod_paint_25 rfl (ax_retV hJ)
  · rw [if_neg c1] at hJ
    refine aw_iload_n (n := 6) d_Mod_paint_5 rfl rfl 1 rfl ?_
    refine aw_iload_n (n := 7) d_Mod_paint_6 rfl rfl 2 rfl ?_
    obtain ⟨r1, σ1, hc1, hJ⟩ := ax_bindE hJ
    refine aw_callSi (n := 10) (c_Mod_seen hc1) Y_Mod_seen km_Mod_175 (by decide) (by decide) rfl rfl (Nat.le_of_ble_eq_true rfl) d_Mod_paint_7 rfl (fun r9 s9 hp => ?_)
    obtain ⟨rfl, rfl, hb1⟩ := hp
    refine aw_if_eq (n := 13) (t := 25) d_Mod_paint_10 rfl (by decide) (fun c2 => ?_) (fun c2 => ?_)
    · rw [if_pos c2] at hJ
      exact aw_vret d_Mod_paint_25 rfl (ax_retV hJ)
    · rw [if_neg c2] at hJ
      refine aw_aload_n (n := 14) d_Mod_paint_13 rfl rfl 0 rfl ?_
      refine gf_Mod_dots (n := 17) d_Mod_paint_14 rfl kf_Mod_45 ?_
      refine aw_bipush (n := 19) (v := 16) d_Mod_paint_17 rfl (by decide) ?_
      refine aw_iload_n (n := 20) d_Mod_paint_19 rfl rfl 2 rfl ?_
      refine aw_imul (n := 21) d_Mod_paint_20 rfl ?_
      refine aw_iload_n (n := 22) d_Mod_paint_21 rfl rfl 1 rfl ?_
      refine aw_iadd (n := 23) d_Mod_paint_22 rfl ?_
      refine aw_iload_n (n := 24) d_Mod_paint_23 rfl rfl 3 rfl ?_
      obtain ⟨h1, hJ⟩ := ax_need hJ
      refine as_43 (n := 25) d_Mod_paint_24 rfl h1 ?_
      obtain ⟨σ2, eσ2, hJ⟩ := ax_letE hJ
      refine aw_let eσ2 ?_
      exact aw_vret d_Mod_paint_25 rfl (ax_retV hJ)
abbrev b_Mod_floor : ByteArray := prog_10_method_31_code
def y_Mod_floor : MethodName := ⟨"DotConsoleModel", "floor", "(II)I"⟩
theorem d_Mod_floor_0 : decode b_Mod_floor 0 = .ok (.iload_n 0, 1) := by decide +kernel
theorem d_Mod_floor_1 : decode b_Mod_floor 1 = .ok (.ifCond .lt 9, 3) := by decide +kernel
theorem d_Mod_floor_4 : decode b_Mod_floor 4 = .ok (.iload_n 0, 1) := by decide +kernel
theorem d_Mod_floor_5 : decode b_Mod_floor 5 = .ok (.iload_n 1, 1) := by decide +kernel
theorem d_Mod_floor_6 : decode b_Mod_floor 6 = .ok (.idiv, 1) := by decide +kernel
theorem d_Mod_floor_7 : decode b_Mod_floor 7 = .ok (.goto 11, 3) := by decide +kernel
theorem d_Mod_floor_10 : decode b_Mod_floor 10 = .ok (.iload_n 1, 1) := by decide +kernel
theorem d_Mod_floor_11 : decode b_Mod_floor 11 = .ok (.iconst 1, 1) := by decide +kernel
theorem d_Mod_floor_12 : decode b_Mod_floor 12 = .ok (.isub, 1) := by decide +kernel
theorem d_Mod_floor_13 : decode b_Mod_floor 13 = .ok (.iload_n 0, 1) := by decide +kernel
theorem d_Mod_floor_14 : decode b_Mod_floor 14 = .ok (.isub, 1) := by decide +kernel
theorem d_Mod_floor_15 : decode b_Mod_floor 15 = .ok (.iload_n 1, 1) := by decide +kernel
theorem d_Mod_floor_16 : decode b_Mod_floor 16 = .ok (.idiv, 1) := by decide +kernel
theorem d_Mod_floor_17 : decode b_Mod_floor 17 = .ok (.ineg, 1) := by decide +kernel
theorem d_Mod_floor_18 : decode b_Mod_floor 18 = .ok (.ireturn, 1) := by decide +kernel
def μ_Mod_floor : ax_M := (b_Mod_floor, 2, "DotConsoleModel", (some .int), 0, 0, 0, 0)
theorem Y_Mod_floor : ax_YS μ_Mod_floor y_Mod_floor 2 := ⟨⟨ax_mem (by decide +kernel) rfl, ax_mem (by decide +kernel) rfl, by decide, by decide, by decide +kernel⟩, ax_mem (by decide +kernel) rfl⟩
def J_Mod_floor (N : Nat) (a0 : Int32) (a1 : Int32) (σ : St) : Option (Int32 × St) :=
  (if a0 < 0 then
  (if a1 = 0 then none else some ((-(((a1 - 1) - a0) / a1)), σ))
  else (if a1 = 0 then none else some ((a0 / a1), σ)))
set_option maxHeartbeats 1000000 in
theorem c_Mod_floor {N : Nat} {g : ax_G} {a0 : Int32} {a1 : Int32} {σ : St} {r9 : Int32} {s9 : St} (hJ : J_Mod_floor N a0 a1 σ = some (r9, s9)) : ax_CI μ_Mod_floor g y_Mod_floor (wM g) [.int a0, .int a1] σ (ax_eqI r9 s9) := by
  refine ax_CI.of (plainFor_of_name rfl) rfl (Nat.le_of_ble_eq_true rfl) (fun x A _ => ?_)
  show AW x μ_Mod_floor g A (wM g) (0, 0) (ax_QI x μ_Mod_floor g A (wM g) (ax_eqI r9 s9)) 0 [(0, .int a0), (1, .int a1)] [] σ
  rw [J_Mod_floor] at hJ
  refine aw_iload_n (n := 1) d_Mod_floor_0 rfl rfl 0 rfl ?_
  refine aw_if_lt (n := 4) (t := 10) d_Mod_floor_1 rfl (by decide) (fun c1 => ?_) (fun c1 => ?_)
  · rw [if_pos c1] at hJ
    refine aw_iload_n (n := 11) d_Mod_floor_10 rfl rfl 1 rfl ?_
    refine aw_iconst (n := 12) (v := 1) d_Mod_floor_11 rfl (by decide) ?_
    refine aw_isub (n := 13) d_Mod_floor_12 rfl ?_
    refine aw_iload_n (n := 14) d_Mod_floor_13 rfl rfl 0 rfl ?_
    refine aw_isub (n := 15) d_Mod_floor_14 rfl ?_
    refine aw_iload_n (n := 16) d_Mod_floor_15 rfl rfl 1 rfl ?_
    obtain ⟨h1, hJ⟩ := ax_need0 hJ
    refine aw_idiv (n := 17) d_Mod_floor_16 rfl h1 ?_
    refine aw_ineg (n := 18) d_Mod_floor_17 rfl ?_
    exact aw_iret d_Mod_floor_18 rfl (ax_ret hJ)
  · rw [if_neg c1] at hJ
    refine aw_iload_n (n := 5) d_Mod_floor_4 rfl rfl 0 rfl ?_
    refine aw_iload_n (n := 6) d_Mod_floor_5 rfl rfl 1 rfl ?_
    obtain ⟨h2, hJ⟩ := ax_need0 hJ
    refine aw_idiv (n := 7) d_Mod_floor_6 rfl h2 ?_
    refine aw_goto (t := 18) d_Mod_floor_7 (by decide) ?_
    exact aw_iret d_Mod_floor_18 rfl (ax_ret hJ)
abbrev b_Mod_stroke : ByteArray := prog_10_method_32_code
def y_Mod_stroke : MethodName := ⟨"DotConsoleModel", "stroke", "(IIIII)V"⟩
theorem d_Mod_stroke_0 : decode b_Mod_stroke 0 = .ok (.iload_n 3, 1) := by decide +kernel
theorem d_Mod_stroke_1 : decode b_Mod_stroke 1 = .ok (.iload_n 1, 1) := by decide +kernel
theorem d_Mod_stroke_2 : decode b_Mod_stroke 2 = .ok (.isub, 1) := by decide +kernel
theorem d_Mod_stroke_3 : decode b_Mod_stroke 3 = .ok (.istore 6, 2) := by decide +kernel
theorem d_Mod_stroke_5 : decode b_Mod_stroke 5 = .ok (.iload 4, 2) := by decide +kernel
theorem d_Mod_stroke_7 : decode b_Mod_stroke 7 = .ok (.iload_n 2, 1) := by decide +kernel
theorem d_Mod_stroke_8 : decode b_Mod_stroke 8 = .ok (.isub, 1) := by decide +kernel
theorem d_Mod_stroke_9 : decode b_Mod_stroke 9 = .ok (.istore 7, 2) := by decide +kernel
theorem d_Mod_stroke_11 : decode b_Mod_stroke 11 = .ok (.iload 6, 2) := by decide +kernel
theorem d_Mod_stroke_13 : decode b_Mod_stroke 13 = .ok (.ifCond .ge 9, 3) := by decide +kernel
theorem d_Mod_stroke_16 : decode b_Mod_stroke 16 = .ok (.iload 6, 2) := by decide +kernel
theorem d_Mod_stroke_18 : decode b_Mod_stroke 18 = .ok (.ineg, 1) := by decide +kernel
theorem d_Mod_stroke_19 : decode b_Mod_stroke 19 = .ok (.goto 5, 3) := by decide +kernel
theorem d_Mod_stroke_22 : decode b_Mod_stroke 22 = .ok (.iload 6, 2) := by decide +kernel
theorem d_Mod_stroke_24 : decode b_Mod_stroke 24 = .ok (.istore 8, 2) := by decide +kernel
theorem d_Mod_stroke_26 : decode b_Mod_stroke 26 = .ok (.iload 7, 2) := by decide +kernel
theorem d_Mod_stroke_28 : decode b_Mod_stroke 28 = .ok (.ifCond .ge 9, 3) := by decide +kernel
theorem d_Mod_stroke_31 : decode b_Mod_stroke 31 = .ok (.iload 7, 2) := by decide +kernel
theorem d_Mod_stroke_33 : decode b_Mod_stroke 33 = .ok (.ineg, 1) := by decide +kernel
theorem d_Mod_stroke_34 : decode b_Mod_stroke 34 = .ok (.goto 5, 3) := by decide +kernel
theorem d_Mod_stroke_37 : decode b_Mod_stroke 37 = .ok (.iload 7, 2) := by decide +kernel
theorem d_Mod_stroke_39 : decode b_Mod_stroke 39 = .ok (.istore 9, 2) := by decide +kernel
theorem d_Mod_stroke_41 : decode b_Mod_stroke 41 = .ok (.iload 8, 2) := by decide +kernel
theorem d_Mod_stroke_43 : decode b_Mod_stroke 43 = .ok (.iload 9, 2) := by decide +kernel
theorem d_Mod_stroke_45 : decode b_Mod_stroke 45 = .ok (.if_icmp .le 8, 3) := by decide +kernel
theorem d_Mod_stroke_48 : decode b_Mod_stroke 48 = .ok (.iload 8, 2) := by decide +kernel
theorem d_Mod_stroke_50 : decode b_Mod_stroke 50 = .ok (.goto 5, 3) := by decide +kernel
theorem d_Mod_stroke_53 : decode b_Mod_stroke 53 = .ok (.iload 9, 2) := by decide +kernel
theorem d_Mod_stroke_55 : decode b_Mod_stroke 55 = .ok (.istore 10, 2) := by decide +kernel
theorem d_Mod_stroke_57 : decode b_Mod_stroke 57 = .ok (.iload 10, 2) := by decide +kernel
theorem d_Mod_stroke_59 : decode b_Mod_stroke 59 = .ok (.bipush 40, 2) := by decide +kernel
theorem d_Mod_stroke_61 : decode b_Mod_stroke 61 = .ok (.if_icmp .le 4, 3) := by decide +kernel
theorem d_Mod_stroke_64 : decode b_Mod_stroke 64 = .ok (.return_, 1) := by decide +kernel
theorem d_Mod_stroke_65 : decode b_Mod_stroke 65 = .ok (.iload 10, 2) := by decide +kernel
theorem d_Mod_stroke_67 : decode b_Mod_stroke 67 = .ok (.ifCond .ne 12, 3) := by decide +kernel
theorem d_Mod_stroke_70 : decode b_Mod_stroke 70 = .ok (.aload_n 0, 1) := by decide +kernel
theorem d_Mod_stroke_71 : decode b_Mod_stroke 71 = .ok (.iload_n 1, 1) := by decide +kernel
theorem d_Mod_stroke_72 : decode b_Mod_stroke 72 = .ok (.iload_n 2, 1) := by decide +kernel
theorem d_Mod_stroke_73 : decode b_Mod_stroke 73 = .ok (.iload 5, 2) := by decide +kernel
theorem d_Mod_stroke_75 : decode b_Mod_stroke 75 = .ok (.iconst 1, 1) := by decide +kernel
theorem d_Mod_stroke_76 : decode b_Mod_stroke 76 = .ok (.invokevirtual 193, 3) := by decide +kernel
theorem d_Mod_stroke_79 : decode b_Mod_stroke 79 = .ok (.iconst 0, 1) := by decide +kernel
theorem d_Mod_stroke_80 : decode b_Mod_stroke 80 = .ok (.istore 11, 2) := by decide +kernel
theorem d_Mod_stroke_82 : decode b_Mod_stroke 82 = .ok (.iload 11, 2) := by decide +kernel
theorem d_Mod_stroke_84 : decode b_Mod_stroke 84 = .ok (.iload 10, 2) := by decide +kernel
theorem d_Mod_stroke_86 : decode b_Mod_stroke 86 = .ok (.if_icmp .gt 59, 3) := by decide +kernel
theorem d_Mod_stroke_89 : decode b_Mod_stroke 89 = .ok (.iload 10, 2) := by decide +kernel
theorem d_Mod_stroke_91 : decode b_Mod_stroke 91 = .ok (.ifCond .le 54, 3) := by decide +kernel
theorem d_Mod_stroke_94 : decode b_Mod_stroke 94 = .ok (.aload_n 0, 1) := by decide +kernel
theorem d_Mod_stroke_95 : decode b_Mod_stroke 95 = .ok (.iload_n 1, 1) := by decide +kernel
theorem d_Mod_stroke_96 : decode b_Mod_stroke 96 = .ok (.iconst 2, 1) := by decide +kernel
theorem d_Mod_stroke_97 : decode b_Mod_stroke 97 = .ok (.iload 11, 2) := by decide +kernel
theorem d_Mod_stroke_99 : decode b_Mod_stroke 99 = .ok (.imul, 1) := by decide +kernel
theorem d_Mod_stroke_100 : decode b_Mod_stroke 100 = .ok (.iload 6, 2) := by decide +kernel
theorem d_Mod_stroke_102 : decode b_Mod_stroke 102 = .ok (.imul, 1) := by decide +kernel
theorem d_Mod_stroke_103 : decode b_Mod_stroke 103 = .ok (.iload 10, 2) := by decide +kernel
theorem d_Mod_stroke_105 : decode b_Mod_stroke 105 = .ok (.iadd, 1) := by decide +kernel
theorem d_Mod_stroke_106 : decode b_Mod_stroke 106 = .ok (.iconst 2, 1) := by decide +kernel
theorem d_Mod_stroke_107 : decode b_Mod_stroke 107 = .ok (.iload 10, 2) := by decide +kernel
theorem d_Mod_stroke_109 : decode b_Mod_stroke 109 = .ok (.imul, 1) := by decide +kernel
theorem d_Mod_stroke_110 : decode b_Mod_stroke 110 = .ok (.invokestatic 200, 3) := by decide +kernel
theorem d_Mod_stroke_113 : decode b_Mod_stroke 113 = .ok (.iadd, 1) := by decide +kernel
theorem d_Mod_stroke_114 : decode b_Mod_stroke 114 = .ok (.iload_n 2, 1) := by decide +kernel
theorem d_Mod_stroke_115 : decode b_Mod_stroke 115 = .ok (.iconst 2, 1) := by decide +kernel
theorem d_Mod_stroke_116 : decode b_Mod_stroke 116 = .ok (.iload 11, 2) := by decide +kernel
theorem d_Mod_stroke_118 : decode b_Mod_stroke 118 = .ok (.imul, 1) := by decide +kernel
theorem d_Mod_stroke_119 : decode b_Mod_stroke 119 = .ok (.iload 7, 2) := by decide +kernel
theorem d_Mod_stroke_121 : decode b_Mod_stroke 121 = .ok (.imul, 1) := by decide +kernel
theorem d_Mod_stroke_122 : decode b_Mod_stroke 122 = .ok (.iload 10, 2) := by decide +kernel
theorem d_Mod_stroke_124 : decode b_Mod_stroke 124 = .ok (.iadd, 1) := by decide +kernel
theorem d_Mod_stroke_125 : decode b_Mod_stroke 125 = .ok (.iconst 2, 1) := by decide +kernel
theorem d_Mod_stroke_126 : decode b_Mod_stroke 126 = .ok (.iload 10, 2) := by decide +kernel
theorem d_Mod_stroke_128 : decode b_Mod_stroke 128 = .ok (.imul, 1) := by decide +kernel
theorem d_Mod_stroke_129 : decode b_Mod_stroke 129 = .ok (.invokestatic 200, 3) := by decide +kernel
theorem d_Mod_stroke_132 : decode b_Mod_stroke 132 = .ok (.iadd, 1) := by decide +kernel
theorem d_Mod_stroke_133 : decode b_Mod_stroke 133 = .ok (.iload 5, 2) := by decide +kernel
theorem d_Mod_stroke_135 : decode b_Mod_stroke 135 = .ok (.iconst 1, 1) := by decide +kernel
theorem d_Mod_stroke_136 : decode b_Mod_stroke 136 = .ok (.invokevirtual 193, 3) := by decide +kernel
theorem d_Mod_stroke_139 : decode b_Mod_stroke 139 = .ok (.iinc 11 1, 3) := by decide +kernel
theorem d_Mod_stroke_142 : decode b_Mod_stroke 142 = .ok (.goto (-60), 3) := by decide +kernel
theorem d_Mod_stroke_145 : decode b_Mod_stroke 145 = .ok (.return_, 1) := by decide +kernel
def μ_Mod_stroke : ax_M := (b_Mod_stroke, 12, "DotConsoleModel", none, 2, 45, 0, 0)
theorem Y_Mod_stroke : ax_YV μ_Mod_stroke y_Mod_stroke 5 := ⟨⟨ax_mem (by decide +kernel) rfl, ax_mem (by decide +kernel) rfl, by decide, by decide, by decide +kernel⟩, ax_mem (by decide +kernel) rfl, ax_mem (by decide +kernel) rfl⟩
theorem km_Mod_200 : Cond.methodLink "DotConsoleModel" 200 ⟨"DotConsoleModel", "floor", "(II)I"⟩ ∈ ax_T := ax_mem (by decide +kernel) rfl
theorem km_Mod_193 : Cond.methodLink "DotConsoleModel" 193 ⟨"DotConsoleModel", "paint", "(IIIZ)V"⟩ ∈ ax_T := ax_mem (by decide +kernel) rfl
def J_Mod_stroke_82 (N : Nat) : Nat → Int32 → Int32 → Int32 → Int32 → Int32 → Int32 → Int32 → St → Option St
  | 0, _, _, _, _, _, _, _, _ => none
  | n + 1, l1, l2, l5, l6, l7, l10, l11, σ => (if l10 < l11 then
  some σ
  else (if l10 ≤ 0 then
  some σ
  else ax_bind (J_Mod_floor N (((2 * l11) * l6) + l10) (2 * l10) σ) (fun r1 σ2 =>
  ax_bind (J_Mod_floor N (((2 * l11) * l7) + l10) (2 * l10) σ2) (fun r2 σ3 =>
  ax_bindV (J_Mod_paint N (l1 + r1) (l2 + r2) l5 1 σ3) (fun σ4 =>
  ax_let ((l11 + 1) : Int32) (fun v3 =>
  J_Mod_stroke_82 N n l1 l2 l5 l6 l7 l10 v3 σ4))))))
def J_Mod_stroke_55 (N : Nat) (t0 : Int32) (l1 : Int32) (l2 : Int32) (l5 : Int32) (l6 : Int32) (l7 : Int32) (σ : St) : Option St :=
  (if t0 ≤ 40 then
  (if t0 = 0 then
  ax_bindV (J_Mod_paint N l1 l2 l5 1 σ) (fun σ1 =>
  J_Mod_stroke_82 N N l1 l2 l5 l6 l7 t0 0 σ1)
  else J_Mod_stroke_82 N N l1 l2 l5 l6 l7 t0 0 σ)
  else some σ)
def J_Mod_stroke_39 (N : Nat) (t0 : Int32) (l1 : Int32) (l2 : Int32) (l5 : Int32) (l6 : Int32) (l7 : Int32) (l8 : Int32) (σ : St) : Option St :=
  (if l8 ≤ t0 then
  J_Mod_stroke_55 N t0 l1 l2 l5 l6 l7 σ
  else J_Mod_stroke_55 N l8 l1 l2 l5 l6 l7 σ)
def J_Mod_stroke_24 (N : Nat) (t0 : Int32) (l1 : Int32) (l2 : Int32) (l5 : Int32) (l6 : Int32) (l7 : Int32) (σ : St) : Option St :=
  (if 0 ≤ l7 then
  J_Mod_stroke_39 N l7 l1 l2 l5 l6 l7 t0 σ
  else J_Mod_stroke_39 N (-l7) l1 l2 l5 l6 l7 t0 σ)
def J_Mod_stroke (N : Nat) (a1 : Int32) (a2 : Int32) (a3 : Int32) (a4 : Int32) (a5 : Int32) (σ : St) : Option St :=
  ax_let ((a3 - a1) : Int32) (fun v1 =>
  ax_let ((a4 - a2) : Int32) (fun v2 =>
  (if 0 ≤ v1 then
  J_Mod_stroke_24 N v1 a1 a2 a5 v1 v2 σ
  else J_Mod_stroke_24 N (-v1) a1 a2 a5 v1 v2 σ)))
set_option maxHeartbeats 1000000 in
theorem t_Mod_stroke_82 {N : Nat} {g : ax_G} {s9 : St} (x : ax_X) (A : Nat → Prop) : ∀ (n : Nat) (l1 : Int32) (l2 : Int32) (l5 : Int32) (l6 : Int32) (l7 : Int32) (l10 : Int32) (l11 : Int32) (σ : St), J_Mod_stroke_82 N n l1 l2 l5 l6 l7 l10 l11 σ = some s9 → AW x μ_Mod_stroke g A (wM g) (0, 0) (ax_QV x μ_Mod_stroke g A (wM g) (ax_eqV s9)) 82 [(0, .ref (g.2.1 32)), (1, .int l1), (2, .int l2), (5, .int l5), (6, .int l6), (7, .int l7), (10, .int l10), (11, .int l11)] [] σ := by
  intro n
  induction n with
  | zero => intro l1 l2 l5 l6 l7 l10 l11 σ hJ; rw [J_Mod_stroke_82] at hJ; cases hJ
  | succ n ih =>
    intro l1 l2 l5 l6 l7 l10 l11 σ hJ
    rw [J_Mod_stroke_82] at hJ
    refine aw_iload (n := 84) d_Mod_stroke_82 rfl 7 rfl ?_
    refine aw_iload (n := 86) d_Mod_stroke_84 rfl 6 rfl ?_
    refine aw_icmp_gt (n := 89) (t := 145) d_Mod_stroke_86 rfl (by decide) (fun c6 => ?_) (fun c6 => ?_)
    · rw [if_pos c6] at hJ
      exact aw_vret d_Mod_stroke_145 rfl (ax_retV hJ)
    · rw [if_neg c6] at hJ
      refine aw_iload (n := 91) d_Mod_stroke_89 rfl 6 rfl ?_
      refine aw_if_le (n := 94) (t := 145) d_Mod_stroke_91 rfl (by decide) (fun c7 => ?_) (fun c7 => ?_)
      · rw [if_pos c7] at hJ
        exact aw_vret d_Mod_stroke_145 rfl (ax_retV hJ)
      · rw [if_neg c7] at hJ
        refine aw_aload_n (n := 95) d_Mod_stroke_94 rfl rfl 0 rfl ?_
        refine aw_iload_n (n := 96) d_Mod_stroke_95 rfl rfl 1 rfl ?_
        refine aw_iconst (n := 97) (v := 2) d_Mod_stroke_96 rfl (by decide) ?_
        refine aw_iload (n := 99) d_Mod_stroke_97 rfl 7 rfl ?_
        refine aw_imul (n := 100) d_Mod_stroke_99 rfl ?_
        refine aw_iload (n := 102) d_Mod_stroke_100 rfl 4 rfl ?_
        refine aw_imul (n := 103) d_Mod_stroke_102 rfl ?_
        refine aw_iload (n := 105) d_Mod_stroke_103 rfl 6 rfl ?_
        refine aw_iadd (n := 106) d_Mod_stroke_105 rfl ?_
        refine aw_iconst (n := 107) (v := 2) d_Mod_stroke_106 rfl (by decide) ?_
        refine aw_iload (n := 109) d_Mod_stroke_107 rfl 6 rfl ?_
        refine aw_imul (n := 110) d_Mod_stroke_109 rfl ?_
        obtain ⟨r1, σ2, hc2, hJ⟩ := ax_bindE hJ
        refine aw_callSi (n := 113) (c_Mod_floor hc2) Y_Mod_floor km_Mod_200 (by decide) (by decide) rfl rfl (Nat.le_of_ble_eq_true rfl) d_Mod_stroke_110 rfl (fun r9 s9 hp => ?_)
        obtain ⟨rfl, rfl⟩ := hp
        refine aw_iadd (n := 114) d_Mod_stroke_113 rfl ?_
        refine aw_iload_n (n := 115) d_Mod_stroke_114 rfl rfl 2 rfl ?_
        refine aw_iconst (n := 116) (v := 2) d_Mod_stroke_115 rfl (by decide) ?_
        refine aw_iload (n := 118) d_Mod_stroke_116 rfl 7 rfl ?_
        refine aw_imul (n := 119) d_Mod_stroke_118 rfl ?_
        refine aw_iload (n := 121) d_Mod_stroke_119 rfl 5 rfl ?_
        refine aw_imul (n := 122) d_Mod_stroke_121 rfl ?_
        refine aw_iload (n := 124) d_Mod_stroke_122 rfl 6 rfl ?_
        refine aw_iadd (n := 125) d_Mod_stroke_124 rfl ?_
        refine aw_iconst (n := 126) (v := 2) d_Mod_stroke_125 rfl (by decide) ?_
        refine aw_iload (n := 128) d_Mod_stroke_126 rfl 6 rfl ?_
        refine aw_imul (n := 129) d_Mod_stroke_128 rfl ?_
        obtain ⟨r2, σ3, hc3, hJ⟩ := ax_bindE hJ
        refine aw_callSi (n := 132) (c_Mod_floor hc3) Y_Mod_floor km_Mod_200 (by decide) (by decide) rfl rfl (Nat.le_of_ble_eq_true rfl) d_Mod_stroke_129 rfl (fun r9 s9 hp => ?_)
        obtain ⟨rfl, rfl⟩ := hp
        refine aw_iadd (n := 133) d_Mod_stroke_132 rfl ?_
        refine aw_iload (n := 135) d_Mod_stroke_133 rfl 3 rfl ?_
        refine aw_iconst (n := 136) (v := 1) d_Mod_stroke_135 rfl (by decide) ?_
        obtain ⟨σ4, hc4, hJ⟩ := ax_bindVE hJ
        refine aw_callVv (n := 139) (c_Mod_paint hc4) 0 rfl rfl Y_Mod_paint km_Mod_193 (by decide) (by decide) rfl rfl (Nat.le_of_ble_eq_true rfl) d_Mod_stroke_136 rfl (fun s9 hp => ?_)
        subst hp
        obtain ⟨v3, ev3, hJ⟩ := ax_letE hJ
        refine aw_iinc (n := 142) (j := 7) (v := v3) d_Mod_stroke_139 rfl rfl (ev3) (by decide) rfl ?_
        refine aw_goto (t := 82) d_Mod_stroke_142 (by decide) ?_
        refine aw_sub [1, 2, 3, 4, 5, 6, 7, 0] rfl ?_
        exact ih _ _ _ _ _ _ _ _ hJ
set_option maxHeartbeats 1000000 in
theorem t_Mod_stroke_55 {N : Nat} {g : ax_G} {s9 : St} (x : ax_X) (A : Nat → Prop) : ∀ (t0 : Int32) (l1 : Int32) (l2 : Int32) (l5 : Int32) (l6 : Int32) (l7 : Int32) (σ : St), J_Mod_stroke_55 N t0 l1 l2 l5 l6 l7 σ = some s9 → AW x μ_Mod_stroke g A (wM g) (0, 0) (ax_QV x μ_Mod_stroke g A (wM g) (ax_eqV s9)) 55 [(0, .ref (g.2.1 32)), (1, .int l1), (2, .int l2), (5, .int l5), (6, .int l6), (7, .int l7)] [.int t0] σ := by
  intro t0 l1 l2 l5 l6 l7 σ hJ
  rw [J_Mod_stroke_55] at hJ
  refine aw_istore (n := 57) d_Mod_stroke_55 rfl (by decide) rfl ?_
  refine aw_iload (n := 59) d_Mod_stroke_57 rfl 0 rfl ?_
  refine aw_bipush (n := 61) (v := 40) d_Mod_stroke_59 rfl (by decide) ?_
  refine aw_icmp_le (n := 64) (t := 65) d_Mod_stroke_61 rfl (by decide) (fun c4 => ?_) (fun c4 => ?_)
  · rw [if_pos c4] at hJ
    refine aw_iload (n := 67) d_Mod_stroke_65 rfl 0 rfl ?_
    refine aw_if_ne (n := 70) (t := 79) d_Mod_stroke_67 rfl (by decide) (fun c5 => ?_) (fun c5 => ?_)
    · rw [if_neg c5] at hJ
      refine aw_iconst (n := 80) (v := 0) d_Mod_stroke_79 rfl (by decide) ?_
      refine aw_istore (n := 82) d_Mod_stroke_80 rfl (by decide) rfl ?_
      refine aw_sub [2, 3, 4, 5, 6, 7, 1, 0] rfl ?_
      exact t_Mod_stroke_82 x A N _ _ _ _ _ _ _ _ hJ
    · rw [if_pos c5] at hJ
      refine aw_aload_n (n := 71) d_Mod_stroke_70 rfl rfl 1 rfl ?_
      refine aw_iload_n (n := 72) d_Mod_stroke_71 rfl rfl 2 rfl ?_
      refine aw_iload_n (n := 73) d_Mod_stroke_72 rfl rfl 3 rfl ?_
      refine aw_iload (n := 75) d_Mod_stroke_73 rfl 4 rfl ?_
      refine aw_iconst (n := 76) (v := 1) d_Mod_stroke_75 rfl (by decide) ?_
      obtain ⟨σ1, hc1, hJ⟩ := ax_bindVE hJ
      refine aw_callVv (n := 79) (c_Mod_paint hc1) 0 rfl rfl Y_Mod_paint km_Mod_193 (by decide) (by decide) rfl rfl (Nat.le_of_ble_eq_true rfl) d_Mod_stroke_76 rfl (fun s9 hp => ?_)
      subst hp
      refine aw_iconst (n := 80) (v := 0) d_Mod_stroke_79 rfl (by decide) ?_
      refine aw_istore (n := 82) d_Mod_stroke_80 rfl (by decide) rfl ?_
      refine aw_sub [2, 3, 4, 5, 6, 7, 1, 0] rfl ?_
      exact t_Mod_stroke_82 x A N _ _ _ _ _ _ _ _ hJ
  · rw [if_neg c4] at hJ
    exact aw_vret d_Mod_stroke_64 rfl (ax_retV hJ)
set_option maxHeartbeats 1000000 in
theorem t_Mod_stroke_39 {N : Nat} {g : ax_G} {s9 : St} (x : ax_X) (A : Nat → Prop) : ∀ (t0 : Int32) (l1 : Int32) (l2 : Int32) (l5 : Int32) (l6 : Int32) (l7 : Int32) (l8 : Int32) (σ : St), J_Mod_stroke_39 N t0 l1 l2 l5 l6 l7 l8 σ = some s9 → AW x μ_Mod_stroke g A (wM g) (0, 0) (ax_QV x μ_Mod_stroke g A (wM g) (ax_eqV s9)) 39 [(0, .ref (g.2.1 32)), (1, .int l1), (2, .int l2), (5, .int l5), (6, .int l6), (7, .int l7), (8, .int l8)] [.int t0] σ := by
  intro t0 l1 l2 l5 l6 l7 l8 σ hJ
  rw [J_Mod_stroke_39] at hJ
  refine aw_istore (n := 41) d_Mod_stroke_39 rfl (by decide) rfl ?_
  refine aw_iload (n := 43) d_Mod_stroke_41 rfl 7 rfl ?_
  refine aw_iload (n := 45) d_Mod_stroke_43 rfl 0 rfl ?_
  refine aw_icmp_le (n := 48) (t := 53) d_Mod_stroke_45 rfl (by decide) (fun c3 => ?_) (fun c3 => ?_)
  · rw [if_pos c3] at hJ
    refine aw_iload (n := 55) d_Mod_stroke_53 rfl 0 rfl ?_
    refine aw_sub [1, 2, 3, 4, 5, 6] rfl ?_
    exact t_Mod_stroke_55 x A _ _ _ _ _ _ _ hJ
  · rw [if_neg c3] at hJ
    refine aw_iload (n := 50) d_Mod_stroke_48 rfl 7 rfl ?_
    refine aw_goto (t := 55) d_Mod_stroke_50 (by decide) ?_
    refine aw_sub [1, 2, 3, 4, 5, 6] rfl ?_
    exact t_Mod_stroke_55 x A _ _ _ _ _ _ _ hJ
set_option maxHeartbeats 1000000 in
theorem t_Mod_stroke_24 {N : Nat} {g : ax_G} {s9 : St} (x : ax_X) (A : Nat → Prop) : ∀ (t0 : Int32) (l1 : Int32) (l2 : Int32) (l5 : Int32) (l6 : Int32) (l7 : Int32) (σ : St), J_Mod_stroke_24 N t0 l1 l2 l5 l6 l7 σ = some s9 → AW x μ_Mod_stroke g A (wM g) (0, 0) (ax_QV x μ_Mod_stroke g A (wM g) (ax_eqV s9)) 24 [(0, .ref (g.2.1 32)), (1, .int l1), (2, .int l2), (5, .int l5), (6, .int l6), (7, .int l7)] [.int t0] σ := by
  intro t0 l1 l2 l5 l6 l7 σ hJ
  rw [J_Mod_stroke_24] at hJ
  refine aw_istore (n := 26) d_Mod_stroke_24 rfl (by decide) rfl ?_
  refine aw_iload (n := 28) d_Mod_stroke_26 rfl 6 rfl ?_
  refine aw_if_ge (n := 31) (t := 37) d_Mod_stroke_28 rfl (by decide) (fun c2 => ?_) (fun c2 => ?_)
  · rw [if_pos c2] at hJ
    refine aw_iload (n := 39) d_Mod_stroke_37 rfl 6 rfl ?_
    refine aw_sub [1, 2, 3, 4, 5, 6, 0] rfl ?_
    exact t_Mod_stroke_39 x A _ _ _ _ _ _ _ _ hJ
  · rw [if_neg c2] at hJ
    refine aw_iload (n := 33) d_Mod_stroke_31 rfl 6 rfl ?_
    refine aw_ineg (n := 34) d_Mod_stroke_33 rfl ?_
    refine aw_goto (t := 39) d_Mod_stroke_34 (by decide) ?_
    refine aw_sub [1, 2, 3, 4, 5, 6, 0] rfl ?_
    exact t_Mod_stroke_39 x A _ _ _ _ _ _ _ _ hJ
set_option maxHeartbeats 1000000 in
theorem c_Mod_stroke {N : Nat} {g : ax_G} {a1 : Int32} {a2 : Int32} {a3 : Int32} {a4 : Int32} {a5 : Int32} {σ : St} {s9 : St} (hJ : J_Mod_stroke N a1 a2 a3 a4 a5 σ = some s9) : ax_CV μ_Mod_stroke g y_Mod_stroke (wM g) [.ref (g.2.1 32), .int a1, .int a2, .int a3, .int a4, .int a5] σ (ax_eqV s9) := by
  refine ax_CV.of (plainFor_of_name rfl) rfl (Nat.le_of_ble_eq_true rfl) (fun x A _ => ?_)
  show AW x μ_Mod_stroke g A (wM g) (0, 0) (ax_QV x μ_Mod_stroke g A (wM g) (ax_eqV s9)) 0 [(0, .ref (g.2.1 32)), (1, .int a1), (2, .int a2), (3, .int a3), (4, .int a4), (5, .int a5)] [] σ
  rw [J_Mod_stroke] at hJ
  refine aw_iload_n (n := 1) d_Mod_stroke_0 rfl rfl 3 rfl ?_
  refine aw_iload_n (n := 2) d_Mod_stroke_1 rfl rfl 1 rfl ?_
  refine aw_isub (n := 3) d_Mod_stroke_2 rfl ?_
  obtain ⟨v1, ev1, hJ⟩ := ax_letE hJ
  refine aw_top ev1 ?_
  refine aw_istore (n := 5) d_Mod_stroke_3 rfl (by decide) rfl ?_
  refine aw_iload (n := 7) d_Mod_stroke_5 rfl 5 rfl ?_
  refine aw_iload_n (n := 8) d_Mod_stroke_7 rfl rfl 3 rfl ?_
  refine aw_isub (n := 9) d_Mod_stroke_8 rfl ?_
  obtain ⟨v2, ev2, hJ⟩ := ax_letE hJ
  refine aw_top ev2 ?_
  refine aw_istore (n := 11) d_Mod_stroke_9 rfl (by decide) rfl ?_
  refine aw_iload (n := 13) d_Mod_stroke_11 rfl 1 rfl ?_
  refine aw_if_ge (n := 16) (t := 22) d_Mod_stroke_13 rfl (by decide) (fun c1 => ?_) (fun c1 => ?_)
  · rw [if_pos c1] at hJ
    refine aw_iload (n := 24) d_Mod_stroke_22 rfl 1 rfl ?_
    refine aw_sub [2, 3, 4, 7, 1, 0] rfl ?_
    exact t_Mod_stroke_24 x A _ _ _ _ _ _ _ hJ
  · rw [if_neg c1] at hJ
    refine aw_iload (n := 18) d_Mod_stroke_16 rfl 1 rfl ?_
    refine aw_ineg (n := 19) d_Mod_stroke_18 rfl ?_
    refine aw_goto (t := 24) d_Mod_stroke_19 (by decide) ?_
    refine aw_sub [2, 3, 4, 7, 1, 0] rfl ?_
    exact t_Mod_stroke_24 x A _ _ _ _ _ _ _ hJ
abbrev b_Mod_box : ByteArray := prog_10_method_30_code
def y_Mod_box : MethodName := ⟨"DotConsoleModel", "box", "(IIIII)V"⟩
theorem d_Mod_box_0 : decode b_Mod_box 0 = .ok (.iconst 0, 1) := by decide +kernel
theorem d_Mod_box_1 : decode b_Mod_box 1 = .ok (.istore 6, 2) := by decide +kernel
theorem d_Mod_box_3 : decode b_Mod_box 3 = .ok (.iload 6, 2) := by decide +kernel
theorem d_Mod_box_5 : decode b_Mod_box 5 = .ok (.bipush 16, 2) := by decide +kernel
theorem d_Mod_box_7 : decode b_Mod_box 7 = .ok (.if_icmp .ge 114, 3) := by decide +kernel
theorem d_Mod_box_10 : decode b_Mod_box 10 = .ok (.iconst 0, 1) := by decide +kernel
theorem d_Mod_box_11 : decode b_Mod_box 11 = .ok (.istore 7, 2) := by decide +kernel
theorem d_Mod_box_13 : decode b_Mod_box 13 = .ok (.iload 7, 2) := by decide +kernel
theorem d_Mod_box_15 : decode b_Mod_box 15 = .ok (.bipush 16, 2) := by decide +kernel
theorem d_Mod_box_17 : decode b_Mod_box 17 = .ok (.if_icmp .ge 98, 3) := by decide +kernel
theorem d_Mod_box_20 : decode b_Mod_box 20 = .ok (.iload 6, 2) := by decide +kernel
theorem d_Mod_box_22 : decode b_Mod_box 22 = .ok (.iload_n 1, 1) := by decide +kernel
theorem d_Mod_box_23 : decode b_Mod_box 23 = .ok (.if_icmp .lt 9, 3) := by decide +kernel
theorem d_Mod_box_26 : decode b_Mod_box 26 = .ok (.iload 6, 2) := by decide +kernel
theorem d_Mod_box_28 : decode b_Mod_box 28 = .ok (.iload_n 3, 1) := by decide +kernel
theorem d_Mod_box_29 : decode b_Mod_box 29 = .ok (.if_icmp .le 15, 3) := by decide +kernel
theorem d_Mod_box_32 : decode b_Mod_box 32 = .ok (.iload 6, 2) := by decide +kernel
theorem d_Mod_box_34 : decode b_Mod_box 34 = .ok (.iload_n 3, 1) := by decide +kernel
theorem d_Mod_box_35 : decode b_Mod_box 35 = .ok (.if_icmp .lt 13, 3) := by decide +kernel
theorem d_Mod_box_38 : decode b_Mod_box 38 = .ok (.iload 6, 2) := by decide +kernel
theorem d_Mod_box_40 : decode b_Mod_box 40 = .ok (.iload_n 1, 1) := by decide +kernel
theorem d_Mod_box_41 : decode b_Mod_box 41 = .ok (.if_icmp .gt 7, 3) := by decide +kernel
theorem d_Mod_box_44 : decode b_Mod_box 44 = .ok (.iconst 1, 1) := by decide +kernel
theorem d_Mod_box_45 : decode b_Mod_box 45 = .ok (.goto 4, 3) := by decide +kernel
theorem d_Mod_box_48 : decode b_Mod_box 48 = .ok (.iconst 0, 1) := by decide +kernel
theorem d_Mod_box_49 : decode b_Mod_box 49 = .ok (.istore 8, 2) := by decide +kernel
theorem d_Mod_box_51 : decode b_Mod_box 51 = .ok (.iload 7, 2) := by decide +kernel
theorem d_Mod_box_53 : decode b_Mod_box 53 = .ok (.iload_n 2, 1) := by decide +kernel
theorem d_Mod_box_54 : decode b_Mod_box 54 = .ok (.if_icmp .lt 10, 3) := by decide +kernel
theorem d_Mod_box_57 : decode b_Mod_box 57 = .ok (.iload 7, 2) := by decide +kernel
theorem d_Mod_box_59 : decode b_Mod_box 59 = .ok (.iload 4, 2) := by decide +kernel
theorem d_Mod_box_61 : decode b_Mod_box 61 = .ok (.if_icmp .le 16, 3) := by decide +kernel
theorem d_Mod_box_64 : decode b_Mod_box 64 = .ok (.iload 7, 2) := by decide +kernel
theorem d_Mod_box_66 : decode b_Mod_box 66 = .ok (.iload 4, 2) := by decide +kernel
theorem d_Mod_box_68 : decode b_Mod_box 68 = .ok (.if_icmp .lt 13, 3) := by decide +kernel
theorem d_Mod_box_71 : decode b_Mod_box 71 = .ok (.iload 7, 2) := by decide +kernel
theorem d_Mod_box_73 : decode b_Mod_box 73 = .ok (.iload_n 2, 1) := by decide +kernel
theorem d_Mod_box_74 : decode b_Mod_box 74 = .ok (.if_icmp .gt 7, 3) := by decide +kernel
theorem d_Mod_box_77 : decode b_Mod_box 77 = .ok (.iconst 1, 1) := by decide +kernel
theorem d_Mod_box_78 : decode b_Mod_box 78 = .ok (.goto 4, 3) := by decide +kernel
theorem d_Mod_box_81 : decode b_Mod_box 81 = .ok (.iconst 0, 1) := by decide +kernel
theorem d_Mod_box_82 : decode b_Mod_box 82 = .ok (.istore 9, 2) := by decide +kernel
theorem d_Mod_box_84 : decode b_Mod_box 84 = .ok (.aload_n 0, 1) := by decide +kernel
theorem d_Mod_box_85 : decode b_Mod_box 85 = .ok (.iload 6, 2) := by decide +kernel
theorem d_Mod_box_87 : decode b_Mod_box 87 = .ok (.iload 7, 2) := by decide +kernel
theorem d_Mod_box_89 : decode b_Mod_box 89 = .ok (.iload 5, 2) := by decide +kernel
theorem d_Mod_box_91 : decode b_Mod_box 91 = .ok (.iload 8, 2) := by decide +kernel
theorem d_Mod_box_93 : decode b_Mod_box 93 = .ok (.ifCond .eq 12, 3) := by decide +kernel
theorem d_Mod_box_96 : decode b_Mod_box 96 = .ok (.iload 9, 2) := by decide +kernel
theorem d_Mod_box_98 : decode b_Mod_box 98 = .ok (.ifCond .eq 7, 3) := by decide +kernel
theorem d_Mod_box_101 : decode b_Mod_box 101 = .ok (.iconst 1, 1) := by decide +kernel
theorem d_Mod_box_102 : decode b_Mod_box 102 = .ok (.goto 4, 3) := by decide +kernel
theorem d_Mod_box_105 : decode b_Mod_box 105 = .ok (.iconst 0, 1) := by decide +kernel
theorem d_Mod_box_106 : decode b_Mod_box 106 = .ok (.invokevirtual 193, 3) := by decide +kernel
theorem d_Mod_box_109 : decode b_Mod_box 109 = .ok (.iinc 7 1, 3) := by decide +kernel
theorem d_Mod_box_112 : decode b_Mod_box 112 = .ok (.goto (-99), 3) := by decide +kernel
theorem d_Mod_box_115 : decode b_Mod_box 115 = .ok (.iinc 6 1, 3) := by decide +kernel
theorem d_Mod_box_118 : decode b_Mod_box 118 = .ok (.goto (-115), 3) := by decide +kernel
theorem d_Mod_box_121 : decode b_Mod_box 121 = .ok (.return_, 1) := by decide +kernel
def μ_Mod_box : ax_M := (b_Mod_box, 10, "DotConsoleModel", none, 2, 45, 0, 0)
theorem Y_Mod_box : ax_YV μ_Mod_box y_Mod_box 5 := ⟨⟨ax_mem (by decide +kernel) rfl, ax_mem (by decide +kernel) rfl, by decide, by decide, by decide +kernel⟩, ax_mem (by decide +kernel) rfl, ax_mem (by decide +kernel) rfl⟩
def J_Mod_box_82 (N : Nat) (K3 : Int32 → Int32 → Int32 → Int32 → Int32 → Int32 → St → Option St) (K13 : Int32 → Int32 → Int32 → Int32 → Int32 → Int32 → Int32 → St → Option St) (t0 : Int32) (l1 : Int32) (l2 : Int32) (l3 : Int32) (l4 : Int32) (l5 : Int32) (l6 : Int32) (l7 : Int32) (l8 : Int32) (σ : St) : Option St :=
  (if l8 = 0 then
  ax_bindV (J_Mod_paint N l6 l7 l5 0 σ) (fun σ1 =>
  ax_let ((l7 + 1) : Int32) (fun v2 =>
  K13 l1 l2 l3 l4 l5 l6 v2 σ1))
  else (if t0 = 0 then
  ax_bindV (J_Mod_paint N l6 l7 l5 0 σ) (fun σ2 =>
  ax_let ((l7 + 1) : Int32) (fun v3 =>
  K13 l1 l2 l3 l4 l5 l6 v3 σ2))
  else ax_bindV (J_Mod_paint N l6 l7 l5 1 σ) (fun σ3 =>
  ax_let ((l7 + 1) : Int32) (fun v4 =>
  K13 l1 l2 l3 l4 l5 l6 v4 σ3))))
def J_Mod_box_77 (N : Nat) (K3 : Int32 → Int32 → Int32 → Int32 → Int32 → Int32 → St → Option St) (K13 : Int32 → Int32 → Int32 → Int32 → Int32 → Int32 → Int32 → St → Option St) (l1 : Int32) (l2 : Int32) (l3 : Int32) (l4 : Int32) (l5 : Int32) (l6 : Int32) (l7 : Int32) (l8 : Int32) (σ : St) : Option St :=
  J_Mod_box_82 N K3 K13 1 l1 l2 l3 l4 l5 l6 l7 l8 σ
def J_Mod_box_81 (N : Nat) (K3 : Int32 → Int32 → Int32 → Int32 → Int32 → Int32 → St → Option St) (K13 : Int32 → Int32 → Int32 → Int32 → Int32 → Int32 → Int32 → St → Option St) (l1 : Int32) (l2 : Int32) (l3 : Int32) (l4 : Int32) (l5 : Int32) (l6 : Int32) (l7 : Int32) (l8 : Int32) (σ : St) : Option St :=
  J_Mod_box_82 N K3 K13 0 l1 l2 l3 l4 l5 l6 l7 l8 σ
def J_Mod_box_64 (N : Nat) (K3 : Int32 → Int32 → Int32 → Int32 → Int32 → Int32 → St → Option St) (K13 : Int32 → Int32 → Int32 → Int32 → Int32 → Int32 → Int32 → St → Option St) (l1 : Int32) (l2 : Int32) (l3 : Int32) (l4 : Int32) (l5 : Int32) (l6 : Int32) (l7 : Int32) (l8 : Int32) (σ : St) : Option St :=
  (if l7 < l4 then
  J_Mod_box_81 N K3 K13 l1 l2 l3 l4 l5 l6 l7 l8 σ
  else (if l2 < l7 then
  J_Mod_box_81 N K3 K13 l1 l2 l3 l4 l5 l6 l7 l8 σ
  else J_Mod_box_77 N K3 K13 l1 l2 l3 l4 l5 l6 l7 l8 σ))
def J_Mod_box_49 (N : Nat) (K3 : Int32 → Int32 → Int32 → Int32 → Int32 → Int32 → St → Option St) (K13 : Int32 → Int32 → Int32 → Int32 → Int32 → Int32 → Int32 → St → Option St) (t0 : Int32) (l1 : Int32) (l2 : Int32) (l3 : Int32) (l4 : Int32) (l5 : Int32) (l6 : Int32) (l7 : Int32) (σ : St) : Option St :=
  (if l7 < l2 then
  J_Mod_box_64 N K3 K13 l1 l2 l3 l4 l5 l6 l7 t0 σ
  else (if l7 ≤ l4 then
  J_Mod_box_77 N K3 K13 l1 l2 l3 l4 l5 l6 l7 t0 σ
  else J_Mod_box_64 N K3 K13 l1 l2 l3 l4 l5 l6 l7 t0 σ))
def J_Mod_box_44 (N : Nat) (K3 : Int32 → Int32 → Int32 → Int32 → Int32 → Int32 → St → Option St) (K13 : Int32 → Int32 → Int32 → Int32 → Int32 → Int32 → Int32 → St → Option St) (l1 : Int32) (l2 : Int32) (l3 : Int32) (l4 : Int32) (l5 : Int32) (l6 : Int32) (l7 : Int32) (σ : St) : Option St :=
  J_Mod_box_49 N K3 K13 1 l1 l2 l3 l4 l5 l6 l7 σ
def J_Mod_box_48 (N : Nat) (K3 : Int32 → Int32 → Int32 → Int32 → Int32 → Int32 → St → Option St) (K13 : Int32 → Int32 → Int32 → Int32 → Int32 → Int32 → Int32 → St → Option St) (l1 : Int32) (l2 : Int32) (l3 : Int32) (l4 : Int32) (l5 : Int32) (l6 : Int32) (l7 : Int32) (σ : St) : Option St :=
  J_Mod_box_49 N K3 K13 0 l1 l2 l3 l4 l5 l6 l7 σ
def J_Mod_box_32 (N : Nat) (K3 : Int32 → Int32 → Int32 → Int32 → Int32 → Int32 → St → Option St) (K13 : Int32 → Int32 → Int32 → Int32 → Int32 → Int32 → Int32 → St → Option St) (l1 : Int32) (l2 : Int32) (l3 : Int32) (l4 : Int32) (l5 : Int32) (l6 : Int32) (l7 : Int32) (σ : St) : Option St :=
  (if l6 < l3 then
  J_Mod_box_48 N K3 K13 l1 l2 l3 l4 l5 l6 l7 σ
  else (if l1 < l6 then
  J_Mod_box_48 N K3 K13 l1 l2 l3 l4 l5 l6 l7 σ
  else J_Mod_box_44 N K3 K13 l1 l2 l3 l4 l5 l6 l7 σ))
def J_Mod_box_13 (N : Nat) (K3 : Int32 → Int32 → Int32 → Int32 → Int32 → Int32 → St → Option St) : Nat → Int32 → Int32 → Int32 → Int32 → Int32 → Int32 → Int32 → St → Option St
  | 0, _, _, _, _, _, _, _, _ => none
  | n + 1, l1, l2, l3, l4, l5, l6, l7, σ => (if 16 ≤ l7 then
  ax_let ((l6 + 1) : Int32) (fun v1 =>
  K3 l1 l2 l3 l4 l5 v1 σ)
  else (if l6 < l1 then
  J_Mod_box_32 N K3 (fun l1 l2 l3 l4 l5 l6 l7 σ => J_Mod_box_13 N K3 n l1 l2 l3 l4 l5 l6 l7 σ) l1 l2 l3 l4 l5 l6 l7 σ
  else (if l6 ≤ l3 then
  J_Mod_box_44 N K3 (fun l1 l2 l3 l4 l5 l6 l7 σ => J_Mod_box_13 N K3 n l1 l2 l3 l4 l5 l6 l7 σ) l1 l2 l3 l4 l5 l6 l7 σ
  else J_Mod_box_32 N K3 (fun l1 l2 l3 l4 l5 l6 l7 σ => J_Mod_box_13 N K3 n l1 l2 l3 l4 l5 l6 l7 σ) l1 l2 l3 l4 l5 l6 l7 σ)))
def J_Mod_box_3 (N : Nat) : Nat → Int32 → Int32 → Int32 → Int32 → Int32 → Int32 → St → Option St
  | 0, _, _, _, _, _, _, _ => none
  | n + 1, l1, l2, l3, l4, l5, l6, σ => (if 16 ≤ l6 then
  some σ
  else J_Mod_box_13 N (fun l1 l2 l3 l4 l5 l6 σ => J_Mod_box_3 N n l1 l2 l3 l4 l5 l6 σ) N l1 l2 l3 l4 l5 l6 0 σ)
def J_Mod_box (N : Nat) (a1 : Int32) (a2 : Int32) (a3 : Int32) (a4 : Int32) (a5 : Int32) (σ : St) : Option St :=
  J_Mod_box_3 N N a1 a2 a3 a4 a5 0 σ
set_option maxHeartbeats 1000000 in
theorem t_Mod_box_82 {N : Nat} {g : ax_G} {s9 : St} (x : ax_X) (A : Nat → Prop) {K3 : Int32 → Int32 → Int32 → Int32 → Int32 → Int32 → St → Option St} {K13 : Int32 → Int32 → Int32 → Int32 → Int32 → Int32 → Int32 → St → Option St} (hK3 : ∀ (l1 : Int32) (l2 : Int32) (l3 : Int32) (l4 : Int32) (l5 : Int32) (l6 : Int32) (σ : St), K3 l1 l2 l3 l4 l5 l6 σ = some s9 → AW x μ_Mod_box g A (wM g) (0, 0) (ax_QV x μ_Mod_box g A (wM g) (ax_eqV s9)) 3 [(0, .ref (g.2.1 32)), (1, .int l1), (2, .int l2), (3, .int l3), (4, .int l4), (5, .int l5), (6, .int l6)] [] σ) (hK13 : ∀ (l1 : Int32) (l2 : Int32) (l3 : Int32) (l4 : Int32) (l5 : Int32) (l6 : Int32) (l7 : Int32) (σ : St), K13 l1 l2 l3 l4 l5 l6 l7 σ = some s9 → AW x μ_Mod_box g A (wM g) (0, 0) (ax_QV x μ_Mod_box g A (wM g) (ax_eqV s9)) 13 [(0, .ref (g.2.1 32)), (1, .int l1), (2, .int l2), (3, .int l3), (4, .int l4), (5, .int l5), (6, .int l6), (7, .int l7)] [] σ) : ∀ (t0 : Int32) (l1 : Int32) (l2 : Int32) (l3 : Int32) (l4 : Int32) (l5 : Int32) (l6 : Int32) (l7 : Int32) (l8 : Int32) (σ : St), J_Mod_box_82 N K3 K13 t0 l1 l2 l3 l4 l5 l6 l7 l8 σ = some s9 → AW x μ_Mod_box g A (wM g) (0, 0) (ax_QV x μ_Mod_box g A (wM g) (ax_eqV s9)) 82 [(0, .ref (g.2.1 32)), (1, .int l1), (2, .int l2), (3, .int l3), (4, .int l4), (5, .int l5), (6, .int l6), (7, .int l7), (8, .int l8)] [.int t0] σ := by
  intro t0 l1 l2 l3 l4 l5 l6 l7 l8 σ hJ
  rw [J_Mod_box_82] at hJ
  refine aw_istore (n := 84) d_Mod_box_82 rfl (by decide) rfl ?_
  refine aw_aload_n (n := 85) d_Mod_box_84 rfl rfl 1 rfl ?_
  refine aw_iload (n := 87) d_Mod_box_85 rfl 7 rfl ?_
  refine aw_iload (n := 89) d_Mod_box_87 rfl 8 rfl ?_
  refine aw_iload (n := 91) d_Mod_box_89 rfl 6 rfl ?_
  refine aw_iload (n := 93) d_Mod_box_91 rfl 9 rfl ?_
  refine aw_if_eq (n := 96) (t := 105) d_Mod_box_93 rfl (by decide) (fun c11 => ?_) (fun c11 => ?_)
  · rw [if_pos c11] at hJ
    refine aw_iconst (n := 106) (v := 0) d_Mod_box_105 rfl (by decide) ?_
    obtain ⟨σ1, hc1, hJ⟩ := ax_bindVE hJ
    refine aw_callVv (n := 109) (c_Mod_paint hc1) 0 rfl rfl Y_Mod_paint km_Mod_193 (by decide) (by decide) rfl rfl (Nat.le_of_ble_eq_true rfl) d_Mod_box_106 rfl (fun s9 hp => ?_)
    subst hp
    obtain ⟨v2, ev2, hJ⟩ := ax_letE hJ
    refine aw_iinc (n := 112) (j := 8) (v := v2) d_Mod_box_109 rfl rfl (ev2) (by decide) rfl ?_
    refine aw_goto (t := 13) d_Mod_box_112 (by decide) ?_
    refine aw_sub [2, 3, 4, 5, 6, 7, 8, 0] rfl ?_
    exact hK13 _ _ _ _ _ _ _ _ hJ
  · rw [if_neg c11] at hJ
    refine aw_iload (n := 98) d_Mod_box_96 rfl 0 rfl ?_
    refine aw_if_eq (n := 101) (t := 105) d_Mod_box_98 rfl (by decide) (fun c12 => ?_) (fun c12 => ?_)
    · rw [if_pos c12] at hJ
      refine aw_iconst (n := 106) (v := 0) d_Mod_box_105 rfl (by decide) ?_
      obtain ⟨σ2, hc2, hJ⟩ := ax_bindVE hJ
      refine aw_callVv (n := 109) (c_Mod_paint hc2) 0 rfl rfl Y_Mod_paint km_Mod_193 (by decide) (by decide) rfl rfl (Nat.le_of_ble_eq_true rfl) d_Mod_box_106 rfl (fun s9 hp => ?_)
      subst hp
      obtain ⟨v3, ev3, hJ⟩ := ax_letE hJ
      refine aw_iinc (n := 112) (j := 8) (v := v3) d_Mod_box_109 rfl rfl (ev3) (by decide) rfl ?_
      refine aw_goto (t := 13) d_Mod_box_112 (by decide) ?_
      refine aw_sub [2, 3, 4, 5, 6, 7, 8, 0] rfl ?_
      exact hK13 _ _ _ _ _ _ _ _ hJ
    · rw [if_neg c12] at hJ
      refine aw_iconst (n := 102) (v := 1) d_Mod_box_101 rfl (by decide) ?_
      refine aw_goto (t := 106) d_Mod_box_102 (by decide) ?_
      obtain ⟨σ3, hc3, hJ⟩ := ax_bindVE hJ
      refine aw_callVv (n := 109) (c_Mod_paint hc3) 0 rfl rfl Y_Mod_paint km_Mod_193 (by decide) (by decide) rfl rfl (Nat.le_of_ble_eq_true rfl) d_Mod_box_106 rfl (fun s9 hp => ?_)
      subst hp
      obtain ⟨v4, ev4, hJ⟩ := ax_letE hJ
      refine aw_iinc (n := 112) (j := 8) (v := v4) d_Mod_box_109 rfl rfl (ev4) (by decide) rfl ?_
      refine aw_goto (t := 13) d_Mod_box_112 (by decide) ?_
      refine aw_sub [2, 3, 4, 5, 6, 7, 8, 0] rfl ?_
      exact hK13 _ _ _ _ _ _ _ _ hJ
set_option maxHeartbeats 1000000 in
theorem t_Mod_box_77 {N : Nat} {g : ax_G} {s9 : St} (x : ax_X) (A : Nat → Prop) {K3 : Int32 → Int32 → Int32 → Int32 → Int32 → Int32 → St → Option St} {K13 : Int32 → Int32 → Int32 → Int32 → Int32 → Int32 → Int32 → St → Option St} (hK3 : ∀ (l1 : Int32) (l2 : Int32) (l3 : Int32) (l4 : Int32) (l5 : Int32) (l6 : Int32) (σ : St), K3 l1 l2 l3 l4 l5 l6 σ = some s9 → AW x μ_Mod_box g A (wM g) (0, 0) (ax_QV x μ_Mod_box g A (wM g) (ax_eqV s9)) 3 [(0, .ref (g.2.1 32)), (1, .int l1), (2, .int l2), (3, .int l3), (4, .int l4), (5, .int l5), (6, .int l6)] [] σ) (hK13 : ∀ (l1 : Int32) (l2 : Int32) (l3 : Int32) (l4 : Int32) (l5 : Int32) (l6 : Int32) (l7 : Int32) (σ : St), K13 l1 l2 l3 l4 l5 l6 l7 σ = some s9 → AW x μ_Mod_box g A (wM g) (0, 0) (ax_QV x μ_Mod_box g A (wM g) (ax_eqV s9)) 13 [(0, .ref (g.2.1 32)), (1, .int l1), (2, .int l2), (3, .int l3), (4, .int l4), (5, .int l5), (6, .int l6), (7, .int l7)] [] σ) : ∀ (l1 : Int32) (l2 : Int32) (l3 : Int32) (l4 : Int32) (l5 : Int32) (l6 : Int32) (l7 : Int32) (l8 : Int32) (σ : St), J_Mod_box_77 N K3 K13 l1 l2 l3 l4 l5 l6 l7 l8 σ = some s9 → AW x μ_Mod_box g A (wM g) (0, 0) (ax_QV x μ_Mod_box g A (wM g) (ax_eqV s9)) 77 [(0, .ref (g.2.1 32)), (1, .int l1), (2, .int l2), (3, .int l3), (4, .int l4), (5, .int l5), (6, .int l6), (7, .int l7), (8, .int l8)] [] σ := by
  intro l1 l2 l3 l4 l5 l6 l7 l8 σ hJ
  rw [J_Mod_box_77] at hJ
  refine aw_iconst (n := 78) (v := 1) d_Mod_box_77 rfl (by decide) ?_
  refine aw_goto (t := 82) d_Mod_box_78 (by decide) ?_
  exact t_Mod_box_82 x A hK3 hK13 _ _ _ _ _ _ _ _ _ _ hJ
set_option maxHeartbeats 1000000 in
theorem t_Mod_box_81 {N : Nat} {g : ax_G} {s9 : St} (x : ax_X) (A : Nat → Prop) {K3 : Int32 → Int32 → Int32 → Int32 → Int32 → Int32 → St → Option St} {K13 : Int32 → Int32 → Int32 → Int32 → Int32 → Int32 → Int32 → St → Option St} (hK3 : ∀ (l1 : Int32) (l2 : Int32) (l3 : Int32) (l4 : Int32) (l5 : Int32) (l6 : Int32) (σ : St), K3 l1 l2 l3 l4 l5 l6 σ = some s9 → AW x μ_Mod_box g A (wM g) (0, 0) (ax_QV x μ_Mod_box g A (wM g) (ax_eqV s9)) 3 [(0, .ref (g.2.1 32)), (1, .int l1), (2, .int l2), (3, .int l3), (4, .int l4), (5, .int l5), (6, .int l6)] [] σ) (hK13 : ∀ (l1 : Int32) (l2 : Int32) (l3 : Int32) (l4 : Int32) (l5 : Int32) (l6 : Int32) (l7 : Int32) (σ : St), K13 l1 l2 l3 l4 l5 l6 l7 σ = some s9 → AW x μ_Mod_box g A (wM g) (0, 0) (ax_QV x μ_Mod_box g A (wM g) (ax_eqV s9)) 13 [(0, .ref (g.2.1 32)), (1, .int l1), (2, .int l2), (3, .int l3), (4, .int l4), (5, .int l5), (6, .int l6), (7, .int l7)] [] σ) : ∀ (l1 : Int32) (l2 : Int32) (l3 : Int32) (l4 : Int32) (l5 : Int32) (l6 : Int32) (l7 : Int32) (l8 : Int32) (σ : St), J_Mod_box_81 N K3 K13 l1 l2 l3 l4 l5 l6 l7 l8 σ = some s9 → AW x μ_Mod_box g A (wM g) (0, 0) (ax_QV x μ_Mod_box g A (wM g) (ax_eqV s9)) 81 [(0, .ref (g.2.1 32)), (1, .int l1), (2, .int l2), (3, .int l3), (4, .int l4), (5, .int l5), (6, .int l6), (7, .int l7), (8, .int l8)] [] σ := by
  intro l1 l2 l3 l4 l5 l6 l7 l8 σ hJ
  rw [J_Mod_box_81] at hJ
  refine aw_iconst (n := 82) (v := 0) d_Mod_box_81 rfl (by decide) ?_
  exact t_Mod_box_82 x A hK3 hK13 _ _ _ _ _ _ _ _ _ _ hJ
set_option maxHeartbeats 1000000 in
theorem t_Mod_box_64 {N : Nat} {g : ax_G} {s9 : St} (x : ax_X) (A : Nat → Prop) {K3 : Int32 → Int32 → Int32 → Int32 → Int32 → Int32 → St → Option St} {K13 : Int32 → Int32 → Int32 → Int32 → Int32 → Int32 → Int32 → St → Option St} (hK3 : ∀ (l1 : Int32) (l2 : Int32) (l3 : Int32) (l4 : Int32) (l5 : Int32) (l6 : Int32) (σ : St), K3 l1 l2 l3 l4 l5 l6 σ = some s9 → AW x μ_Mod_box g A (wM g) (0, 0) (ax_QV x μ_Mod_box g A (wM g) (ax_eqV s9)) 3 [(0, .ref (g.2.1 32)), (1, .int l1), (2, .int l2), (3, .int l3), (4, .int l4), (5, .int l5), (6, .int l6)] [] σ) (hK13 : ∀ (l1 : Int32) (l2 : Int32) (l3 : Int32) (l4 : Int32) (l5 : Int32) (l6 : Int32) (l7 : Int32) (σ : St), K13 l1 l2 l3 l4 l5 l6 l7 σ = some s9 → AW x μ_Mod_box g A (wM g) (0, 0) (ax_QV x μ_Mod_box g A (wM g) (ax_eqV s9)) 13 [(0, .ref (g.2.1 32)), (1, .int l1), (2, .int l2), (3, .int l3), (4, .int l4), (5, .int l5), (6, .int l6), (7, .int l7)] [] σ) : ∀ (l1 : Int32) (l2 : Int32) (l3 : Int32) (l4 : Int32) (l5 : Int32) (l6 : Int32) (l7 : Int32) (l8 : Int32) (σ : St), J_Mod_box_64 N K3 K13 l1 l2 l3 l4 l5 l6 l7 l8 σ = some s9 → AW x μ_Mod_box g A (wM g) (0, 0) (ax_QV x μ_Mod_box g A (wM g) (ax_eqV s9)) 64 [(0, .ref (g.2.1 32)), (1, .int l1), (2, .int l2), (3, .int l3), (4, .int l4), (5, .int l5), (6, .int l6), (7, .int l7), (8, .int l8)] [] σ := by
  intro l1 l2 l3 l4 l5 l6 l7 l8 σ hJ
  rw [J_Mod_box_64] at hJ
  refine aw_iload (n := 66) d_Mod_box_64 rfl 7 rfl ?_
  refine aw_iload (n := 68) d_Mod_box_66 rfl 4 rfl ?_
  refine aw_icmp_lt (n := 71) (t := 81) d_Mod_box_68 rfl (by decide) (fun c9 => ?_) (fun c9 => ?_)
  · rw [if_pos c9] at hJ
    exact t_Mod_box_81 x A hK3 hK13 _ _ _ _ _ _ _ _ _ hJ
  · rw [if_neg c9] at hJ
    refine aw_iload (n := 73) d_Mod_box_71 rfl 7 rfl ?_
    refine aw_iload_n (n := 74) d_Mod_box_73 rfl rfl 2 rfl ?_
    refine aw_icmp_gt (n := 77) (t := 81) d_Mod_box_74 rfl (by decide) (fun c10 => ?_) (fun c10 => ?_)
    · rw [if_pos c10] at hJ
      exact t_Mod_box_81 x A hK3 hK13 _ _ _ _ _ _ _ _ _ hJ
    · rw [if_neg c10] at hJ
      exact t_Mod_box_77 x A hK3 hK13 _ _ _ _ _ _ _ _ _ hJ
set_option maxHeartbeats 1000000 in
theorem t_Mod_box_49 {N : Nat} {g : ax_G} {s9 : St} (x : ax_X) (A : Nat → Prop) {K3 : Int32 → Int32 → Int32 → Int32 → Int32 → Int32 → St → Option St} {K13 : Int32 → Int32 → Int32 → Int32 → Int32 → Int32 → Int32 → St → Option St} (hK3 : ∀ (l1 : Int32) (l2 : Int32) (l3 : Int32) (l4 : Int32) (l5 : Int32) (l6 : Int32) (σ : St), K3 l1 l2 l3 l4 l5 l6 σ = some s9 → AW x μ_Mod_box g A (wM g) (0, 0) (ax_QV x μ_Mod_box g A (wM g) (ax_eqV s9)) 3 [(0, .ref (g.2.1 32)), (1, .int l1), (2, .int l2), (3, .int l3), (4, .int l4), (5, .int l5), (6, .int l6)] [] σ) (hK13 : ∀ (l1 : Int32) (l2 : Int32) (l3 : Int32) (l4 : Int32) (l5 : Int32) (l6 : Int32) (l7 : Int32) (σ : St), K13 l1 l2 l3 l4 l5 l6 l7 σ = some s9 → AW x μ_Mod_box g A (wM g) (0, 0) (ax_QV x μ_Mod_box g A (wM g) (ax_eqV s9)) 13 [(0, .ref (g.2.1 32)), (1, .int l1), (2, .int l2), (3, .int l3), (4, .int l4), (5, .int l5), (6, .int l6), (7, .int l7)] [] σ) : ∀ (t0 : Int32) (l1 : Int32) (l2 : Int32) (l3 : Int32) (l4 : Int32) (l5 : Int32) (l6 : Int32) (l7 : Int32) (σ : St), J_Mod_box_49 N K3 K13 t0 l1 l2 l3 l4 l5 l6 l7 σ = some s9 → AW x μ_Mod_box g A (wM g) (0, 0) (ax_QV x μ_Mod_box g A (wM g) (ax_eqV s9)) 49 [(0, .ref (g.2.1 32)), (1, .int l1), (2, .int l2), (3, .int l3), (4, .int l4), (5, .int l5), (6, .int l6), (7, .int l7)] [.int t0] σ := by
  intro t0 l1 l2 l3 l4 l5 l6 l7 σ hJ
  rw [J_Mod_box_49] at hJ
  refine aw_istore (n := 51) d_Mod_box_49 rfl (by decide) rfl ?_
  refine aw_iload (n := 53) d_Mod_box_51 rfl 8 rfl ?_
  refine aw_iload_n (n := 54) d_Mod_box_53 rfl rfl 3 rfl ?_
  refine aw_icmp_lt (n := 57) (t := 64) d_Mod_box_54 rfl (by decide) (fun c7 => ?_) (fun c7 => ?_)
  · rw [if_pos c7] at hJ
    refine aw_sub [1, 2, 3, 4, 5, 6, 7, 8, 0] rfl ?_
    exact t_Mod_box_64 x A hK3 hK13 _ _ _ _ _ _ _ _ _ hJ
  · rw [if_neg c7] at hJ
    refine aw_iload (n := 59) d_Mod_box_57 rfl 8 rfl ?_
    refine aw_iload (n := 61) d_Mod_box_59 rfl 5 rfl ?_
    refine aw_icmp_le (n := 64) (t := 77) d_Mod_box_61 rfl (by decide) (fun c8 => ?_) (fun c8 => ?_)
    · rw [if_pos c8] at hJ
      refine aw_sub [1, 2, 3, 4, 5, 6, 7, 8, 0] rfl ?_
      exact t_Mod_box_77 x A hK3 hK13 _ _ _ _ _ _ _ _ _ hJ
    · rw [if_neg c8] at hJ
      refine aw_sub [1, 2, 3, 4, 5, 6, 7, 8, 0] rfl ?_
      exact t_Mod_box_64 x A hK3 hK13 _ _ _ _ _ _ _ _ _ hJ
set_option maxHeartbeats 1000000 in
theorem t_Mod_box_44 {N : Nat} {g : ax_G} {s9 : St} (x : ax_X) (A : Nat → Prop) {K3 : Int32 → Int32 → Int32 → Int32 → Int32 → Int32 → St → Option St} {K13 : Int32 → Int32 → Int32 → Int32 → Int32 → Int32 → Int32 → St → Option St} (hK3 : ∀ (l1 : Int32) (l2 : Int32) (l3 : Int32) (l4 : Int32) (l5 : Int32) (l6 : Int32) (σ : St), K3 l1 l2 l3 l4 l5 l6 σ = some s9 → AW x μ_Mod_box g A (wM g) (0, 0) (ax_QV x μ_Mod_box g A (wM g) (ax_eqV s9)) 3 [(0, .ref (g.2.1 32)), (1, .int l1), (2, .int l2), (3, .int l3), (4, .int l4), (5, .int l5), (6, .int l6)] [] σ) (hK13 : ∀ (l1 : Int32) (l2 : Int32) (l3 : Int32) (l4 : Int32) (l5 : Int32) (l6 : Int32) (l7 : Int32) (σ : St), K13 l1 l2 l3 l4 l5 l6 l7 σ = some s9 → AW x μ_Mod_box g A (wM g) (0, 0) (ax_QV x μ_Mod_box g A (wM g) (ax_eqV s9)) 13 [(0, .ref (g.2.1 32)), (1, .int l1), (2, .int l2), (3, .int l3), (4, .int l4), (5, .int l5), (6, .int l6), (7, .int l7)] [] σ) : ∀ (l1 : Int32) (l2 : Int32) (l3 : Int32) (l4 : Int32) (l5 : Int32) (l6 : Int32) (l7 : Int32) (σ : St), J_Mod_box_44 N K3 K13 l1 l2 l3 l4 l5 l6 l7 σ = some s9 → AW x μ_Mod_box g A (wM g) (0, 0) (ax_QV x μ_Mod_box g A (wM g) (ax_eqV s9)) 44 [(0, .ref (g.2.1 32)), (1, .int l1), (2, .int l2), (3, .int l3), (4, .int l4), (5, .int l5), (6, .int l6), (7, .int l7)] [] σ := by
  intro l1 l2 l3 l4 l5 l6 l7 σ hJ
  rw [J_Mod_box_44] at hJ
  refine aw_iconst (n := 45) (v := 1) d_Mod_box_44 rfl (by decide) ?_
  refine aw_goto (t := 49) d_Mod_box_45 (by decide) ?_
  exact t_Mod_box_49 x A hK3 hK13 _ _ _ _ _ _ _ _ _ hJ
set_option maxHeartbeats 1000000 in
theorem t_Mod_box_48 {N : Nat} {g : ax_G} {s9 : St} (x : ax_X) (A : Nat → Prop) {K3 : Int32 → Int32 → Int32 → Int32 → Int32 → Int32 → St → Option St} {K13 : Int32 → Int32 → Int32 → Int32 → Int32 → Int32 → Int32 → St → Option St} (hK3 : ∀ (l1 : Int32) (l2 : Int32) (l3 : Int32) (l4 : Int32) (l5 : Int32) (l6 : Int32) (σ : St), K3 l1 l2 l3 l4 l5 l6 σ = some s9 → AW x μ_Mod_box g A (wM g) (0, 0) (ax_QV x μ_Mod_box g A (wM g) (ax_eqV s9)) 3 [(0, .ref (g.2.1 32)), (1, .int l1), (2, .int l2), (3, .int l3), (4, .int l4), (5, .int l5), (6, .int l6)] [] σ) (hK13 : ∀ (l1 : Int32) (l2 : Int32) (l3 : Int32) (l4 : Int32) (l5 : Int32) (l6 : Int32) (l7 : Int32) (σ : St), K13 l1 l2 l3 l4 l5 l6 l7 σ = some s9 → AW x μ_Mod_box g A (wM g) (0, 0) (ax_QV x μ_Mod_box g A (wM g) (ax_eqV s9)) 13 [(0, .ref (g.2.1 32)), (1, .int l1), (2, .int l2), (3, .int l3), (4, .int l4), (5, .int l5), (6, .int l6), (7, .int l7)] [] σ) : ∀ (l1 : Int32) (l2 : Int32) (l3 : Int32) (l4 : Int32) (l5 : Int32) (l6 : Int32) (l7 : Int32) (σ : St), J_Mod_box_48 N K3 K13 l1 l2 l3 l4 l5 l6 l7 σ = some s9 → AW x μ_Mod_box g A (wM g) (0, 0) (ax_QV x μ_Mod_box g A (wM g) (ax_eqV s9)) 48 [(0, .ref (g.2.1 32)), (1, .int l1), (2, .int l2), (3, .int l3), (4, .int l4), (5, .int l5), (6, .int l6), (7, .int l7)] [] σ := by
  intro l1 l2 l3 l4 l5 l6 l7 σ hJ
  rw [J_Mod_box_48] at hJ
  refine aw_iconst (n := 49) (v := 0) d_Mod_box_48 rfl (by decide) ?_
  exact t_Mod_box_49 x A hK3 hK13 _ _ _ _ _ _ _ _ _ hJ
set_option maxHeartbeats 1000000 in
theorem t_Mod_box_32 {N : Nat} {g : ax_G} {s9 : St} (x : ax_X) (A : Nat → Prop) {K3 : Int32 → Int32 → Int32 → Int32 → Int32 → Int32 → St → Option St} {K13 : Int32 → Int32 → Int32 → Int32 → Int32 → Int32 → Int32 → St → Option St} (hK3 : ∀ (l1 : Int32) (l2 : Int32) (l3 : Int32) (l4 : Int32) (l5 : Int32) (l6 : Int32) (σ : St), K3 l1 l2 l3 l4 l5 l6 σ = some s9 → AW x μ_Mod_box g A (wM g) (0, 0) (ax_QV x μ_Mod_box g A (wM g) (ax_eqV s9)) 3 [(0, .ref (g.2.1 32)), (1, .int l1), (2, .int l2), (3, .int l3), (4, .int l4), (5, .int l5), (6, .int l6)] [] σ) (hK13 : ∀ (l1 : Int32) (l2 : Int32) (l3 : Int32) (l4 : Int32) (l5 : Int32) (l6 : Int32) (l7 : Int32) (σ : St), K13 l1 l2 l3 l4 l5 l6 l7 σ = some s9 → AW x μ_Mod_box g A (wM g) (0, 0) (ax_QV x μ_Mod_box g A (wM g) (ax_eqV s9)) 13 [(0, .ref (g.2.1 32)), (1, .int l1), (2, .int l2), (3, .int l3), (4, .int l4), (5, .int l5), (6, .int l6), (7, .int l7)] [] σ) : ∀ (l1 : Int32) (l2 : Int32) (l3 : Int32) (l4 : Int32) (l5 : Int32) (l6 : Int32) (l7 : Int32) (σ : St), J_Mod_box_32 N K3 K13 l1 l2 l3 l4 l5 l6 l7 σ = some s9 → AW x μ_Mod_box g A (wM g) (0, 0) (ax_QV x μ_Mod_box g A (wM g) (ax_eqV s9)) 32 [(0, .ref (g.2.1 32)), (1, .int l1), (2, .int l2), (3, .int l3), (4, .int l4), (5, .int l5), (6, .int l6), (7, .int l7)] [] σ := by
  intro l1 l2 l3 l4 l5 l6 l7 σ hJ
  rw [J_Mod_box_32] at hJ
  refine aw_iload (n := 34) d_Mod_box_32 rfl 6 rfl ?_
  refine aw_iload_n (n := 35) d_Mod_box_34 rfl rfl 3 rfl ?_
  refine aw_icmp_lt (n := 38) (t := 48) d_Mod_box_35 rfl (by decide) (fun c5 => ?_) (fun c5 => ?_)
  · rw [if_pos c5] at hJ
    exact t_Mod_box_48 x A hK3 hK13 _ _ _ _ _ _ _ _ hJ
  · rw [if_neg c5] at hJ
    refine aw_iload (n := 40) d_Mod_box_38 rfl 6 rfl ?_
    refine aw_iload_n (n := 41) d_Mod_box_40 rfl rfl 1 rfl ?_
    refine aw_icmp_gt (n := 44) (t := 48) d_Mod_box_41 rfl (by decide) (fun c6 => ?_) (fun c6 => ?_)
    · rw [if_pos c6] at hJ
      exact t_Mod_box_48 x A hK3 hK13 _ _ _ _ _ _ _ _ hJ
    · rw [if_neg c6] at hJ
      exact t_Mod_box_44 x A hK3 hK13 _ _ _ _ _ _ _ _ hJ
set_option maxHeartbeats 1000000 in
theorem t_Mod_box_13 {N : Nat} {g : ax_G} {s9 : St} (x : ax_X) (A : Nat → Prop) {K3 : Int32 → Int32 → Int32 → Int32 → Int32 → Int32 → St → Option St} (hK3 : ∀ (l1 : Int32) (l2 : Int32) (l3 : Int32) (l4 : Int32) (l5 : Int32) (l6 : Int32) (σ : St), K3 l1 l2 l3 l4 l5 l6 σ = some s9 → AW x μ_Mod_box g A (wM g) (0, 0) (ax_QV x μ_Mod_box g A (wM g) (ax_eqV s9)) 3 [(0, .ref (g.2.1 32)), (1, .int l1), (2, .int l2), (3, .int l3), (4, .int l4), (5, .int l5), (6, .int l6)] [] σ) : ∀ (n : Nat) (l1 : Int32) (l2 : Int32) (l3 : Int32) (l4 : Int32) (l5 : Int32) (l6 : Int32) (l7 : Int32) (σ : St), J_Mod_box_13 N K3 n l1 l2 l3 l4 l5 l6 l7 σ = some s9 → AW x μ_Mod_box g A (wM g) (0, 0) (ax_QV x μ_Mod_box g A (wM g) (ax_eqV s9)) 13 [(0, .ref (g.2.1 32)), (1, .int l1), (2, .int l2), (3, .int l3), (4, .int l4), (5, .int l5), (6, .int l6), (7, .int l7)] [] σ := by
  intro n
  induction n with
  | zero => intro l1 l2 l3 l4 l5 l6 l7 σ hJ; rw [J_Mod_box_13] at hJ; cases hJ
  | succ n ih =>
    intro l1 l2 l3 l4 l5 l6 l7 σ hJ
    rw [J_Mod_box_13] at hJ
    refine aw_iload (n := 15) d_Mod_box_13 rfl 7 rfl ?_
    refine aw_bipush (n := 17) (v := 16) d_Mod_box_15 rfl (by decide) ?_
    refine aw_icmp_ge (n := 20) (t := 115) d_Mod_box_17 rfl (by decide) (fun c2 => ?_) (fun c2 => ?_)
    · rw [if_pos c2] at hJ
      obtain ⟨v1, ev1, hJ⟩ := ax_letE hJ
      refine aw_iinc (n := 118) (j := 6) (v := v1) d_Mod_box_115 rfl rfl (ev1) (by decide) rfl ?_
      refine aw_goto (t := 3) d_Mod_box_118 (by decide) ?_
      refine aw_sub [1, 2, 3, 4, 5, 6, 0] rfl ?_
      exact hK3 _ _ _ _ _ _ _ hJ
    · rw [if_neg c2] at hJ
      refine aw_iload (n := 22) d_Mod_box_20 rfl 6 rfl ?_
      refine aw_iload_n (n := 23) d_Mod_box_22 rfl rfl 1 rfl ?_
      refine aw_icmp_lt (n := 26) (t := 32) d_Mod_box_23 rfl (by decide) (fun c3 => ?_) (fun c3 => ?_)
      · rw [if_pos c3] at hJ
        exact t_Mod_box_32 x A hK3 ih _ _ _ _ _ _ _ _ hJ
      · rw [if_neg c3] at hJ
        refine aw_iload (n := 28) d_Mod_box_26 rfl 6 rfl ?_
        refine aw_iload_n (n := 29) d_Mod_box_28 rfl rfl 3 rfl ?_
        refine aw_icmp_le (n := 32) (t := 44) d_Mod_box_29 rfl (by decide) (fun c4 => ?_) (fun c4 => ?_)
        · rw [if_pos c4] at hJ
          exact t_Mod_box_44 x A hK3 ih _ _ _ _ _ _ _ _ hJ
        · rw [if_neg c4] at hJ
          exact t_Mod_box_32 x A hK3 ih _ _ _ _ _ _ _ _ hJ
set_option maxHeartbeats 1000000 in
theorem t_Mod_box_3 {N : Nat} {g : ax_G} {s9 : St} (x : ax_X) (A : Nat → Prop) : ∀ (n : Nat) (l1 : Int32) (l2 : Int32) (l3 : Int32) (l4 : Int32) (l5 : Int32) (l6 : Int32) (σ : St), J_Mod_box_3 N n l1 l2 l3 l4 l5 l6 σ = some s9 → AW x μ_Mod_box g A (wM g) (0, 0) (ax_QV x μ_Mod_box g A (wM g) (ax_eqV s9)) 3 [(0, .ref (g.2.1 32)), (1, .int l1), (2, .int l2), (3, .int l3), (4, .int l4), (5, .int l5), (6, .int l6)] [] σ := by
  intro n
  induction n with
  | zero => intro l1 l2 l3 l4 l5 l6 σ hJ; rw [J_Mod_box_3] at hJ; cases hJ
  | succ n ih =>
    intro l1 l2 l3 l4 l5 l6 σ hJ
    rw [J_Mod_box_3] at hJ
    refine aw_iload (n := 5) d_Mod_box_3 rfl 6 rfl ?_
    refine aw_bipush (n := 7) (v := 16) d_Mod_box_5 rfl (by decide) ?_
    refine aw_icmp_ge (n := 10) (t := 121) d_Mod_box_7 rfl (by decide) (fun c1 => ?_) (fun c1 => ?_)
    · rw [if_pos c1] at hJ
      exact aw_vret d_Mod_box_121 rfl (ax_retV hJ)
    · rw [if_neg c1] at hJ
      refine aw_iconst (n := 11) (v := 0) d_Mod_box_10 rfl (by decide) ?_
      refine aw_istore (n := 13) d_Mod_box_11 rfl (by decide) rfl ?_
      refine aw_sub [1, 2, 3, 4, 5, 6, 7, 0] rfl ?_
      exact t_Mod_box_13 x A ih N _ _ _ _ _ _ _ _ hJ
set_option maxHeartbeats 1000000 in
theorem c_Mod_box {N : Nat} {g : ax_G} {a1 : Int32} {a2 : Int32} {a3 : Int32} {a4 : Int32} {a5 : Int32} {σ : St} {s9 : St} (hJ : J_Mod_box N a1 a2 a3 a4 a5 σ = some s9) : ax_CV μ_Mod_box g y_Mod_box (wM g) [.ref (g.2.1 32), .int a1, .int a2, .int a3, .int a4, .int a5] σ (ax_eqV s9) := by
  refine ax_CV.of (plainFor_of_name rfl) rfl (Nat.le_of_ble_eq_true rfl) (fun x A _ => ?_)
  show AW x μ_Mod_box g A (wM g) (0, 0) (ax_QV x μ_Mod_box g A (wM g) (ax_eqV s9)) 0 [(0, .ref (g.2.1 32)), (1, .int a1), (2, .int a2), (3, .int a3), (4, .int a4), (5, .int a5)] [] σ
  rw [J_Mod_box] at hJ
  refine aw_iconst (n := 1) (v := 0) d_Mod_box_0 rfl (by decide) ?_
  refine aw_istore (n := 3) d_Mod_box_1 rfl (by decide) rfl ?_
  refine aw_sub [1, 2, 3, 4, 5, 6, 0] rfl ?_
  exact t_Mod_box_3 x A N _ _ _ _ _ _ _ hJ
