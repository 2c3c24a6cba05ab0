/-! WALKED: LineReader_unwind, LineReader_takeComma, LineReader_takeClose, LineReader_waitsForTest, LineReader_hold, LineReader_takeJoin, Names_findOrSee, Con_isBuiltIn, LineReader_takeBuiltIn. Printed by wip/whole/build.py. -/
abbrev b_LineReader_unwind : ByteArray := prog_2_method_17_code
def y_LineReader_unwind : MethodName := ⟨"DotConsole$LineReader", "unwind", "(I)V"⟩
theorem d_LineReader_unwind_0 : decode b_LineReader_unwind 0 = .ok (.aload_n 0, 1) := by decide +kernel
theorem d_LineReader_unwind_1 : decode b_LineReader_unwind 1 = .ok (.getfield 85, 3) := by decide +kernel
theorem d_LineReader_unwind_4 : decode b_LineReader_unwind 4 = .ok (.ifCond .le 74, 3) := by decide +kernel
theorem d_LineReader_unwind_7 : decode b_LineReader_unwind 7 = .ok (.aload_n 0, 1) := by decide +kernel
theorem d_LineReader_unwind_8 : decode b_LineReader_unwind 8 = .ok (.getfield 24, 3) := by decide +kernel
theorem d_LineReader_unwind_11 : decode b_LineReader_unwind 11 = .ok (.aload_n 0, 1) := by decide +kernel
theorem d_LineReader_unwind_12 : decode b_LineReader_unwind 12 = .ok (.getfield 85, 3) := by decide +kernel
theorem d_LineReader_unwind_15 : decode b_LineReader_unwind 15 = .ok (.iconst 1, 1) := by decide +kernel
theorem d_LineReader_unwind_16 : decode b_LineReader_unwind 16 = .ok (.isub, 1) := by decide +kernel
theorem d_LineReader_unwind_17 : decode b_LineReader_unwind 17 = .ok (.iaload, 1) := by decide +kernel
theorem d_LineReader_unwind_18 : decode b_LineReader_unwind 18 = .ok (.iload_n 1, 1) := by decide +kernel
theorem d_LineReader_unwind_19 : decode b_LineReader_unwind 19 = .ok (.if_icmp .lt 59, 3) := by decide +kernel
theorem d_LineReader_unwind_22 : decode b_LineReader_unwind 22 = .ok (.aload_n 0, 1) := by decide +kernel
theorem d_LineReader_unwind_23 : decode b_LineReader_unwind 23 = .ok (.dup, 1) := by decide +kernel
theorem d_LineReader_unwind_24 : decode b_LineReader_unwind 24 = .ok (.getfield 85, 3) := by decide +kernel
theorem d_LineReader_unwind_27 : decode b_LineReader_unwind 27 = .ok (.iconst 1, 1) := by decide +kernel
theorem d_LineReader_unwind_28 : decode b_LineReader_unwind 28 = .ok (.isub, 1) := by decide +kernel
theorem d_LineReader_unwind_29 : decode b_LineReader_unwind 29 = .ok (.putfield 85, 3) := by decide +kernel
theorem d_LineReader_unwind_32 : decode b_LineReader_unwind 32 = .ok (.aload_n 0, 1) := by decide +kernel
theorem d_LineReader_unwind_33 : decode b_LineReader_unwind 33 = .ok (.getfield 24, 3) := by decide +kernel
theorem d_LineReader_unwind_36 : decode b_LineReader_unwind 36 = .ok (.aload_n 0, 1) := by decide +kernel
theorem d_LineReader_unwind_37 : decode b_LineReader_unwind 37 = .ok (.getfield 85, 3) := by decide +kernel
theorem d_LineReader_unwind_40 : decode b_LineReader_unwind 40 = .ok (.iaload, 1) := by decide +kernel
theorem d_LineReader_unwind_41 : decode b_LineReader_unwind 41 = .ok (.bipush 6, 2) := by decide +kernel
theorem d_LineReader_unwind_43 : decode b_LineReader_unwind 43 = .ok (.if_icmp .ne 7, 3) := by decide +kernel
theorem d_LineReader_unwind_46 : decode b_LineReader_unwind 46 = .ok (.iconst 1, 1) := by decide +kernel
theorem d_LineReader_unwind_47 : decode b_LineReader_unwind 47 = .ok (.goto 4, 3) := by decide +kernel
theorem d_LineReader_unwind_50 : decode b_LineReader_unwind 50 = .ok (.iconst 0, 1) := by decide +kernel
theorem d_LineReader_unwind_51 : decode b_LineReader_unwind 51 = .ok (.istore_n 2, 1) := by decide +kernel
theorem d_LineReader_unwind_52 : decode b_LineReader_unwind 52 = .ok (.aload_n 0, 1) := by decide +kernel
theorem d_LineReader_unwind_53 : decode b_LineReader_unwind 53 = .ok (.aload_n 0, 1) := by decide +kernel
theorem d_LineReader_unwind_54 : decode b_LineReader_unwind 54 = .ok (.getfield 21, 3) := by decide +kernel
theorem d_LineReader_unwind_57 : decode b_LineReader_unwind 57 = .ok (.aload_n 0, 1) := by decide +kernel
theorem d_LineReader_unwind_58 : decode b_LineReader_unwind 58 = .ok (.getfield 85, 3) := by decide +kernel
theorem d_LineReader_unwind_61 : decode b_LineReader_unwind 61 = .ok (.iaload, 1) := by decide +kernel
theorem d_LineReader_unwind_62 : decode b_LineReader_unwind 62 = .ok (.iconst 0, 1) := by decide +kernel
theorem d_LineReader_unwind_63 : decode b_LineReader_unwind 63 = .ok (.iload_n 2, 1) := by decide +kernel
theorem d_LineReader_unwind_64 : decode b_LineReader_unwind 64 = .ok (.ifCond .eq 7, 3) := by decide +kernel
theorem d_LineReader_unwind_67 : decode b_LineReader_unwind 67 = .ok (.iconst 1, 1) := by decide +kernel
theorem d_LineReader_unwind_68 : decode b_LineReader_unwind 68 = .ok (.goto 4, 3) := by decide +kernel
theorem d_LineReader_unwind_71 : decode b_LineReader_unwind 71 = .ok (.iconst 2, 1) := by decide +kernel
theorem d_LineReader_unwind_72 : decode b_LineReader_unwind 72 = .ok (.invokevirtual 115, 3) := by decide +kernel
theorem d_LineReader_unwind_75 : decode b_LineReader_unwind 75 = .ok (.goto (-75), 3) := by decide +kernel
theorem d_LineReader_unwind_78 : decode b_LineReader_unwind 78 = .ok (.return_, 1) := by decide +kernel
def μ_LineReader_unwind : ax_M := (b_LineReader_unwind, 3, "DotConsole$LineReader", none, 2, 46, 0, 0)
theorem Y_LineReader_unwind : ax_YV μ_LineReader_unwind y_LineReader_unwind 1 := ⟨⟨ax_mem (by decide +kernel) rfl, ax_mem (by decide +kernel) rfl, by decide, by decide, by decide +kernel⟩, ax_mem (by decide +kernel) rfl, ax_mem (by decide +kernel) rfl⟩
theorem kf_LineReader_21 : Cond.fieldLink "DotConsole$LineReader" 21 "DotConsole$LineReader" "waiting" "[I" ∈ ax_T := ax_mem (by decide +kernel) rfl
theorem km_LineReader_115 : Cond.methodLink "DotConsole$LineReader" 115 ⟨"DotConsole$LineReader", "emit", "(III)V"⟩ ∈ ax_T := ax_mem (by decide +kernel) rfl
theorem kf_LineReader_24 : Cond.fieldLink "DotConsole$LineReader" 24 "DotConsole$LineReader" "waitingRanks" "[I" ∈ ax_T := ax_mem (by decide +kernel) rfl
def J_LineReader_unwind_51 (N : Nat) (K0 : Int32 → St → Option St) (t0 : Int32) (l1 : Int32) (σ : St) : Option St :=
  (if (inB (σ.1 13) 48) = true then (if t0 = 0 then
  ax_bindV (J_LineReader_emit N (σ.2 9 (σ.1 13).toNatClampNeg) 0 2 σ) (fun σ2 =>
  K0 l1 σ2)
  else ax_bindV (J_LineReader_emit N (σ.2 9 (σ.1 13).toNatClampNeg) 0 1 σ) (fun σ3 =>
  K0 l1 σ3)) else none)
def J_LineReader_unwind_0 (N : Nat) : Nat → Int32 → St → Option St
  | 0, _, _ => none
  | n + 1, l1, σ => (if (σ.1 13) ≤ 0 then
  some σ
  else (if (inB ((σ.1 13) - 1) 48) = true then (if (σ.2 10 ((σ.1 13) - 1).toNatClampNeg) < l1 then
  some σ
  else ax_let (sF σ 13 ((σ.1 13) - 1)) (fun σ1 =>
  (if (inB (σ1.1 13) 48) = true then (if (σ1.2 10 (σ1.1 13).toNatClampNeg) = 6 then
  J_LineReader_unwind_51 N (fun l1 σ => J_LineReader_unwind_0 N n l1 σ) 1 l1 σ1
  else J_LineReader_unwind_51 N (fun l1 σ => J_LineReader_unwind_0 N n l1 σ) 0 l1 σ1) else none))) else none))
def J_LineReader_unwind (N : Nat) (a1 : Int32) (σ : St) : Option St :=
  J_LineReader_unwind_0 N N a1 σ
set_option maxHeartbeats 1000000 in
theorem t_LineReader_unwind_51 {N : Nat} {g : ax_G} {s9 : St} (x : ax_X) (A : Nat → Prop) {K0 : Int32 → St → Option St} (hK0 : ∀ (l1 : Int32) (σ : St), K0 l1 σ = some s9 → AW x μ_LineReader_unwind g A (wC g) (0, 0) (ax_QV x μ_LineReader_unwind g A (wC g) (ax_eqV s9)) 0 [(0, .ref (g.2.1 9)), (1, .int l1)] [] σ) : ∀ (t0 : Int32) (l1 : Int32) (σ : St), J_LineReader_unwind_51 N K0 t0 l1 σ = some s9 → AW x μ_LineReader_unwind g A (wC g) (0, 0) (ax_QV x μ_LineReader_unwind g A (wC g) (ax_eqV s9)) 51 [(0, .ref (g.2.1 9)), (1, .int l1)] [.int t0] σ := by
  intro t0 l1 σ hJ
  rw [J_LineReader_unwind_51] at hJ
  refine aw_istore_n (n := 52) d_LineReader_unwind_51 rfl rfl (by decide) rfl ?_
  refine aw_aload_n (n := 53) d_LineReader_unwind_52 rfl rfl 1 rfl ?_
  refine aw_aload_n (n := 54) d_LineReader_unwind_53 rfl rfl 1 rfl ?_
  refine gf_LineReader_waiting (n := 57) d_LineReader_unwind_54 rfl kf_LineReader_21 ?_
  refine aw_aload_n (n := 58) d_LineReader_unwind_57 rfl rfl 1 rfl ?_
  refine gf_LineReader_waitingCount (n := 61) d_LineReader_unwind_58 rfl kf_LineReader_85 ?_
  obtain ⟨h3, hJ⟩ := ax_need hJ
  refine al_13 (n := 62) d_LineReader_unwind_61 rfl h3 ?_
  refine aw_iconst (n := 63) (v := 0) d_LineReader_unwind_62 rfl (by decide) ?_
  refine aw_iload_n (n := 64) d_LineReader_unwind_63 rfl rfl 0 rfl ?_
  refine aw_if_eq (n := 67) (t := 71) d_LineReader_unwind_64 rfl (by decide) (fun c4 => ?_) (fun c4 => ?_)
  · rw [if_pos c4] at hJ
    refine aw_iconst (n := 72) (v := 2) d_LineReader_unwind_71 rfl (by decide) ?_
    obtain ⟨σ2, hc1, hJ⟩ := ax_bindVE hJ
    refine aw_callVv (n := 75) (c_LineReader_emit hc1) 9 rfl rfl Y_LineReader_emit km_LineReader_115 (by decide) (by decide) rfl rfl (Nat.le_of_ble_eq_true rfl) d_LineReader_unwind_72 rfl (fun s9 hp => ?_)
    subst hp
    refine aw_goto (t := 0) d_LineReader_unwind_75 (by decide) ?_
    refine aw_sub [1, 2] rfl ?_
    exact hK0 _ _ hJ
  · rw [if_neg c4] at hJ
    refine aw_iconst (n := 68) (v := 1) d_LineReader_unwind_67 rfl (by decide) ?_
    refine aw_goto (t := 72) d_LineReader_unwind_68 (by decide) ?_
    obtain ⟨σ3, hc2, hJ⟩ := ax_bindVE hJ
    refine aw_callVv (n := 75) (c_LineReader_emit hc2) 9 rfl rfl Y_LineReader_emit km_LineReader_115 (by decide) (by decide) rfl rfl (Nat.le_of_ble_eq_true rfl) d_LineReader_unwind_72 rfl (fun s9 hp => ?_)
    subst hp
    refine aw_goto (t := 0) d_LineReader_unwind_75 (by decide) ?_
    refine aw_sub [1, 2] rfl ?_
    exact hK0 _ _ hJ
set_option maxHeartbeats 1000000 in
theorem t_LineReader_unwind_0 {N : Nat} {g : ax_G} {s9 : St} (x : ax_X) (A : Nat → Prop) : ∀ (n : Nat) (l1 : Int32) (σ : St), J_LineReader_unwind_0 N n l1 σ = some s9 → AW x μ_LineReader_unwind g A (wC g) (0, 0) (ax_QV x μ_LineReader_unwind g A (wC g) (ax_eqV s9)) 0 [(0, .ref (g.2.1 9)), (1, .int l1)] [] σ := by
  intro n
  induction n with
  | zero => intro l1 σ hJ; rw [J_LineReader_unwind_0] at hJ; cases hJ
  | succ n ih =>
    intro l1 σ hJ
    rw [J_LineReader_unwind_0] at hJ
    refine aw_aload_n (n := 1) d_LineReader_unwind_0 rfl rfl 0 rfl ?_
    refine gf_LineReader_waitingCount (n := 4) d_LineReader_unwind_1 rfl kf_LineReader_85 ?_
    refine aw_if_le (n := 7) (t := 78) d_LineReader_unwind_4 rfl (by decide) (fun c1 => ?_) (fun c1 => ?_)
    · rw [if_pos c1] at hJ
      exact aw_vret d_LineReader_unwind_78 rfl (ax_retV hJ)
    · rw [if_neg c1] at hJ
      refine aw_aload_n (n := 8) d_LineReader_unwind_7 rfl rfl 0 rfl ?_
      refine gf_LineReader_waitingRanks (n := 11) d_LineReader_unwind_8 rfl kf_LineReader_24 ?_
      refine aw_aload_n (n := 12) d_LineReader_unwind_11 rfl rfl 0 rfl ?_
      refine gf_LineReader_waitingCount (n := 15) d_LineReader_unwind_12 rfl kf_LineReader_85 ?_
      refine aw_iconst (n := 16) (v := 1) d_LineReader_unwind_15 rfl (by decide) ?_
      refine aw_isub (n := 17) d_LineReader_unwind_16 rfl ?_
      obtain ⟨h1, hJ⟩ := ax_need hJ
      refine al_14 (n := 18) d_LineReader_unwind_17 rfl h1 ?_
      refine aw_iload_n (n := 19) d_LineReader_unwind_18 rfl rfl 1 rfl ?_
      refine aw_icmp_lt (n := 22) (t := 78) d_LineReader_unwind_19 rfl (by decide) (fun c2 => ?_) (fun c2 => ?_)
      · rw [if_pos c2] at hJ
        exact aw_vret d_LineReader_unwind_78 rfl (ax_retV hJ)
      · rw [if_neg c2] at hJ
        refine aw_aload_n (n := 23) d_LineReader_unwind_22 rfl rfl 0 rfl ?_
        refine aw_dup (n := 24) d_LineReader_unwind_23 rfl rfl ?_
        refine gf_LineReader_waitingCount (n := 27) d_LineReader_unwind_24 rfl kf_LineReader_85 ?_
        refine aw_iconst (n := 28) (v := 1) d_LineReader_unwind_27 rfl (by decide) ?_
        refine aw_isub (n := 29) d_LineReader_unwind_28 rfl ?_
        refine pf_LineReader_waitingCount (n := 32) d_LineReader_unwind_29 rfl kf_LineReader_85 ?_
        obtain ⟨σ1, eσ1, hJ⟩ := ax_letE hJ
        refine aw_let eσ1 ?_
        refine aw_aload_n (n := 33) d_LineReader_unwind_32 rfl rfl 0 rfl ?_
        refine gf_LineReader_waitingRanks (n := 36) d_LineReader_unwind_33 rfl kf_LineReader_24 ?_
        refine aw_aload_n (n := 37) d_LineReader_unwind_36 rfl rfl 0 rfl ?_
        refine gf_LineReader_waitingCount (n := 40) d_LineReader_unwind_37 rfl kf_LineReader_85 ?_
        obtain ⟨h2, hJ⟩ := ax_need hJ
        refine al_14 (n := 41) d_LineReader_unwind_40 rfl h2 ?_
        refine aw_bipush (n := 43) (v := 6) d_LineReader_unwind_41 rfl (by decide) ?_
        refine aw_icmp_ne (n := 46) (t := 50) d_LineReader_unwind_43 rfl (by decide) (fun c3 => ?_) (fun c3 => ?_)
        · rw [if_neg c3] at hJ
          refine aw_iconst (n := 51) (v := 0) d_LineReader_unwind_50 rfl (by decide) ?_
          exact t_LineReader_unwind_51 x A ih _ _ _ hJ
        · rw [if_pos c3] at hJ
          refine aw_iconst (n := 47) (v := 1) d_LineReader_unwind_46 rfl (by decide) ?_
          refine aw_goto (t := 51) d_LineReader_unwind_47 (by decide) ?_
          exact t_LineReader_unwind_51 x A ih _ _ _ hJ
set_option maxHeartbeats 1000000 in
theorem c_LineReader_unwind {N : Nat} {g : ax_G} {a1 : Int32} {σ : St} {s9 : St} (hJ : J_LineReader_unwind N a1 σ = some s9) : ax_CV μ_LineReader_unwind g y_LineReader_unwind (wC g) [.ref (g.2.1 9), .int a1] σ (ax_eqV s9) := by
  refine ax_CV.of (plainFor_of_name rfl) rfl (Nat.le_of_ble_eq_true rfl) (fun x A _ => ?_)
  show AW x μ_LineReader_unwind g A (wC g) (0, 0) (ax_QV x μ_LineReader_unwind g A (wC g) (ax_eqV s9)) 0 [(0, .ref (g.2.1 9)), (1, .int a1)] [] σ
  rw [J_LineReader_unwind] at hJ
  exact t_LineReader_unwind_0 x A N _ _ hJ
abbrev b_LineReader_takeComma : ByteArray := prog_2_method_15_code
def y_LineReader_takeComma : MethodName := ⟨"DotConsole$LineReader", "takeComma", "()Z"⟩
theorem d_LineReader_takeComma_0 : decode b_LineReader_takeComma 0 = .ok (.aload_n 0, 1) := by decide +kernel
theorem d_LineReader_takeComma_1 : decode b_LineReader_takeComma 1 = .ok (.iconst 1, 1) := by decide +kernel
theorem d_LineReader_takeComma_2 : decode b_LineReader_takeComma 2 = .ok (.invokevirtual 111, 3) := by decide +kernel
theorem d_LineReader_takeComma_5 : decode b_LineReader_takeComma 5 = .ok (.aload_n 0, 1) := by decide +kernel
theorem d_LineReader_takeComma_6 : decode b_LineReader_takeComma 6 = .ok (.iconst 1, 1) := by decide +kernel
theorem d_LineReader_takeComma_7 : decode b_LineReader_takeComma 7 = .ok (.putfield 98, 3) := by decide +kernel
theorem d_LineReader_takeComma_10 : decode b_LineReader_takeComma 10 = .ok (.aload_n 0, 1) := by decide +kernel
theorem d_LineReader_takeComma_11 : decode b_LineReader_takeComma 11 = .ok (.getfield 85, 3) := by decide +kernel
theorem d_LineReader_takeComma_14 : decode b_LineReader_takeComma 14 = .ok (.ifCond .ne 26, 3) := by decide +kernel
theorem d_LineReader_takeComma_17 : decode b_LineReader_takeComma 17 = .ok (.aload_n 0, 1) := by decide +kernel
theorem d_LineReader_takeComma_18 : decode b_LineReader_takeComma 18 = .ok (.dup, 1) := by decide +kernel
theorem d_LineReader_takeComma_19 : decode b_LineReader_takeComma 19 = .ok (.getfield 95, 3) := by decide +kernel
theorem d_LineReader_takeComma_22 : decode b_LineReader_takeComma 22 = .ok (.iconst 1, 1) := by decide +kernel
theorem d_LineReader_takeComma_23 : decode b_LineReader_takeComma 23 = .ok (.isub, 1) := by decide +kernel
theorem d_LineReader_takeComma_24 : decode b_LineReader_takeComma 24 = .ok (.putfield 95, 3) := by decide +kernel
theorem d_LineReader_takeComma_27 : decode b_LineReader_takeComma 27 = .ok (.aload_n 0, 1) := by decide +kernel
theorem d_LineReader_takeComma_28 : decode b_LineReader_takeComma 28 = .ok (.getfield 95, 3) := by decide +kernel
theorem d_LineReader_takeComma_31 : decode b_LineReader_takeComma 31 = .ok (.ifCond .lt 7, 3) := by decide +kernel
theorem d_LineReader_takeComma_34 : decode b_LineReader_takeComma 34 = .ok (.iconst 1, 1) := by decide +kernel
theorem d_LineReader_takeComma_35 : decode b_LineReader_takeComma 35 = .ok (.goto 4, 3) := by decide +kernel
theorem d_LineReader_takeComma_38 : decode b_LineReader_takeComma 38 = .ok (.iconst 0, 1) := by decide +kernel
theorem d_LineReader_takeComma_39 : decode b_LineReader_takeComma 39 = .ok (.ireturn, 1) := by decide +kernel
theorem d_LineReader_takeComma_40 : decode b_LineReader_takeComma 40 = .ok (.aload_n 0, 1) := by decide +kernel
theorem d_LineReader_takeComma_41 : decode b_LineReader_takeComma 41 = .ok (.getfield 27, 3) := by decide +kernel
theorem d_LineReader_takeComma_44 : decode b_LineReader_takeComma 44 = .ok (.aload_n 0, 1) := by decide +kernel
theorem d_LineReader_takeComma_45 : decode b_LineReader_takeComma 45 = .ok (.getfield 85, 3) := by decide +kernel
theorem d_LineReader_takeComma_48 : decode b_LineReader_takeComma 48 = .ok (.iconst 1, 1) := by decide +kernel
theorem d_LineReader_takeComma_49 : decode b_LineReader_takeComma 49 = .ok (.isub, 1) := by decide +kernel
theorem d_LineReader_takeComma_50 : decode b_LineReader_takeComma 50 = .ok (.dup2, 1) := by decide +kernel
theorem d_LineReader_takeComma_51 : decode b_LineReader_takeComma 51 = .ok (.iaload, 1) := by decide +kernel
theorem d_LineReader_takeComma_52 : decode b_LineReader_takeComma 52 = .ok (.iconst 1, 1) := by decide +kernel
theorem d_LineReader_takeComma_53 : decode b_LineReader_takeComma 53 = .ok (.isub, 1) := by decide +kernel
theorem d_LineReader_takeComma_54 : decode b_LineReader_takeComma 54 = .ok (.iastore, 1) := by decide +kernel
theorem d_LineReader_takeComma_55 : decode b_LineReader_takeComma 55 = .ok (.aload_n 0, 1) := by decide +kernel
theorem d_LineReader_takeComma_56 : decode b_LineReader_takeComma 56 = .ok (.getfield 27, 3) := by decide +kernel
theorem d_LineReader_takeComma_59 : decode b_LineReader_takeComma 59 = .ok (.aload_n 0, 1) := by decide +kernel
theorem d_LineReader_takeComma_60 : decode b_LineReader_takeComma 60 = .ok (.getfield 85, 3) := by decide +kernel
theorem d_LineReader_takeComma_63 : decode b_LineReader_takeComma 63 = .ok (.iconst 1, 1) := by decide +kernel
theorem d_LineReader_takeComma_64 : decode b_LineReader_takeComma 64 = .ok (.isub, 1) := by decide +kernel
theorem d_LineReader_takeComma_65 : decode b_LineReader_takeComma 65 = .ok (.iaload, 1) := by decide +kernel
theorem d_LineReader_takeComma_66 : decode b_LineReader_takeComma 66 = .ok (.ifCond .lt 7, 3) := by decide +kernel
theorem d_LineReader_takeComma_69 : decode b_LineReader_takeComma 69 = .ok (.iconst 1, 1) := by decide +kernel
theorem d_LineReader_takeComma_70 : decode b_LineReader_takeComma 70 = .ok (.goto 4, 3) := by decide +kernel
theorem d_LineReader_takeComma_73 : decode b_LineReader_takeComma 73 = .ok (.iconst 0, 1) := by decide +kernel
theorem d_LineReader_takeComma_74 : decode b_LineReader_takeComma 74 = .ok (.ireturn, 1) := by decide +kernel
def μ_LineReader_takeComma : ax_M := (b_LineReader_takeComma, 1, "DotConsole$LineReader", (some .boolean), 3, 68, 0, 0)
theorem Y_LineReader_takeComma : ax_YV μ_LineReader_takeComma y_LineReader_takeComma 0 := ⟨⟨ax_mem (by decide +kernel) rfl, ax_mem (by decide +kernel) rfl, by decide, by decide, by decide +kernel⟩, ax_mem (by decide +kernel) rfl, ax_mem (by decide +kernel) rfl⟩
theorem km_LineReader_111 : Cond.methodLink "DotConsole$LineReader" 111 ⟨"DotConsole$LineReader", "unwind", "(I)V"⟩ ∈ ax_T := ax_mem (by decide +kernel) rfl
theorem kf_LineReader_27 : Cond.fieldLink "DotConsole$LineReader" 27 "DotConsole$LineReader" "commasDue" "[I" ∈ ax_T := ax_mem (by decide +kernel) rfl
theorem kf_LineReader_95 : Cond.fieldLink "DotConsole$LineReader" 95 "DotConsole$LineReader" "outerCommasDue" "I" ∈ ax_T := ax_mem (by decide +kernel) rfl
def J_LineReader_takeComma (N : Nat) (σ : St) : Option (Int32 × St) :=
  ax_bindV (J_LineReader_unwind N 1 σ) (fun σ1 =>
  ax_let (sF σ1 15 1) (fun σ2 =>
  (if (σ2.1 13) = 0 then
  ax_let (sF σ2 14 ((σ2.1 14) - 1)) (fun σ4 =>
  (if (σ4.1 14) < 0 then
  some (0, σ4)
  else some (1, σ4)))
  else (if (inB ((σ2.1 13) - 1) 48) = true then (if (inB ((σ2.1 13) - 1) 48) = true then ax_let (sA σ2 11 ((σ2.1 13) - 1).toNatClampNeg ((σ2.2 11 ((σ2.1 13) - 1).toNatClampNeg) - 1)) (fun σ3 =>
  (if (inB ((σ3.1 13) - 1) 48) = true then (if (σ3.2 11 ((σ3.1 13) - 1).toNatClampNeg) < 0 then
  some (0, σ3)
  else some (1, σ3)) else none)) else none) else none))))
set_option maxHeartbeats 1000000 in
theorem c_LineReader_takeComma {N : Nat} {g : ax_G} {σ : St} {r9 : Int32} {s9 : St} (hJ : J_LineReader_takeComma N σ = some (r9, s9)) : ax_CI μ_LineReader_takeComma g y_LineReader_takeComma (wC g) [.ref (g.2.1 9)] σ (ax_eqZ r9 s9) := by
  refine ax_CI.of (plainFor_of_name rfl) rfl (Nat.le_of_ble_eq_true rfl) (fun x A _ => ?_)
  show AW x μ_LineReader_takeComma g A (wC g) (0, 0) (ax_QI x μ_LineReader_takeComma g A (wC g) (ax_eqZ r9 s9)) 0 [(0, .ref (g.2.1 9))] [] σ
  rw [J_LineReader_takeComma] at hJ
  refine aw_aload_n (n := 1) d_LineReader_takeComma_0 rfl rfl 0 rfl ?_
  refine aw_iconst (n := 2) (v := 1) d_LineReader_takeComma_1 rfl (by decide) ?_
  obtain ⟨σ1, hc1, hJ⟩ := ax_bindVE hJ
  refine aw_callVv (n := 5) (c_LineReader_unwind hc1) 9 rfl rfl Y_LineReader_unwind km_LineReader_111 (by decide) (by decide) rfl rfl (Nat.le_of_ble_eq_true rfl) d_LineReader_takeComma_2 rfl (fun s9 hp => ?_)
  subst hp
  refine aw_aload_n (n := 6) d_LineReader_takeComma_5 rfl rfl 0 rfl ?_
  refine aw_iconst (n := 7) (v := 1) d_LineReader_takeComma_6 rfl (by decide) ?_
  refine pf_LineReader_wantsPart (n := 10) d_LineReader_takeComma_7 rfl kf_LineReader_98 rfl rfl ?_
  obtain ⟨σ2, eσ2, hJ⟩ := ax_letE hJ
  refine aw_let eσ2 ?_
  refine aw_aload_n (n := 11) d_LineReader_takeComma_10 rfl rfl 0 rfl ?_
  refine gf_LineReader_waitingCount (n := 14) d_LineReader_takeComma_11 rfl kf_LineReader_85 ?_
  refine aw_if_ne (n := 17) (t := 40) d_LineReader_takeComma_14 rfl (by decide) (fun c1 => ?_) (fun c1 => ?_)
  · rw [if_neg c1] at hJ
    refine aw_aload_n (n := 41) d_LineReader_takeComma_40 rfl rfl 0 rfl ?_
    refine gf_LineReader_commasDue (n := 44) d_LineReader_takeComma_41 rfl kf_LineReader_27 ?_
    refine aw_aload_n (n := 45) d_LineReader_takeComma_44 rfl rfl 0 rfl ?_
    refine gf_LineReader_waitingCount (n := 48) d_LineReader_takeComma_45 rfl kf_LineReader_85 ?_
    refine aw_iconst (n := 49) (v := 1) d_LineReader_takeComma_48 rfl (by decide) ?_
    refine aw_isub (n := 50) d_LineReader_takeComma_49 rfl ?_
    refine aw_dup2 (n := 51) d_LineReader_takeComma_50 rfl rfl rfl ?_
    obtain ⟨h1, hJ⟩ := ax_need hJ
    refine al_15 (n := 52) d_LineReader_takeComma_51 rfl h1 ?_
    refine aw_iconst (n := 53) (v := 1) d_LineReader_takeComma_52 rfl (by decide) ?_
    refine aw_isub (n := 54) d_LineReader_takeComma_53 rfl ?_
    obtain ⟨h2, hJ⟩ := ax_need hJ
    refine as_15 (n := 55) d_LineReader_takeComma_54 rfl h2 ?_
    obtain ⟨σ3, eσ3, hJ⟩ := ax_letE hJ
    refine aw_let eσ3 ?_
    refine aw_aload_n (n := 56) d_LineReader_takeComma_55 rfl rfl 0 rfl ?_
    refine gf_LineReader_commasDue (n := 59) d_LineReader_takeComma_56 rfl kf_LineReader_27 ?_
    refine aw_aload_n (n := 60) d_LineReader_takeComma_59 rfl rfl 0 rfl ?_
    refine gf_LineReader_waitingCount (n := 63) d_LineReader_takeComma_60 rfl kf_LineReader_85 ?_
    refine aw_iconst (n := 64) (v := 1) d_LineReader_takeComma_63 rfl (by decide) ?_
    refine aw_isub (n := 65) d_LineReader_takeComma_64 rfl ?_
    obtain ⟨h3, hJ⟩ := ax_need hJ
    refine al_15 (n := 66) d_LineReader_takeComma_65 rfl h3 ?_
    refine aw_if_lt (n := 69) (t := 73) d_LineReader_takeComma_66 rfl (by decide) (fun c2 => ?_) (fun c2 => ?_)
    · rw [if_pos c2] at hJ
      refine aw_iconst (n := 74) (v := 0) d_LineReader_takeComma_73 rfl (by decide) ?_
      exact aw_zret d_LineReader_takeComma_74 rfl rfl (ax_retZ hJ rfl)
    · rw [if_neg c2] at hJ
      refine aw_iconst (n := 70) (v := 1) d_LineReader_takeComma_69 rfl (by decide) ?_
      refine aw_goto (t := 74) d_LineReader_takeComma_70 (by decide) ?_
      exact aw_zret d_LineReader_takeComma_74 rfl rfl (ax_retZ hJ rfl)
  · rw [if_pos c1] at hJ
    refine aw_aload_n (n := 18) d_LineReader_takeComma_17 rfl rfl 0 rfl ?_
    refine aw_dup (n := 19) d_LineReader_takeComma_18 rfl rfl ?_
    refine gf_LineReader_outerCommasDue (n := 22) d_LineReader_takeComma_19 rfl kf_LineReader_95 ?_
    refine aw_iconst (n := 23) (v := 1) d_LineReader_takeComma_22 rfl (by decide) ?_
    refine aw_isub (n := 24) d_LineReader_takeComma_23 rfl ?_
    refine pf_LineReader_outerCommasDue (n := 27) d_LineReader_takeComma_24 rfl kf_LineReader_95 ?_
    obtain ⟨σ4, eσ4, hJ⟩ := ax_letE hJ
    refine aw_let eσ4 ?_
    refine aw_aload_n (n := 28) d_LineReader_takeComma_27 rfl rfl 0 rfl ?_
    refine gf_LineReader_outerCommasDue (n := 31) d_LineReader_takeComma_28 rfl kf_LineReader_95 ?_
    refine aw_if_lt (n := 34) (t := 38) d_LineReader_takeComma_31 rfl (by decide) (fun c3 => ?_) (fun c3 => ?_)
    · rw [if_pos c3] at hJ
      refine aw_iconst (n := 39) (v := 0) d_LineReader_takeComma_38 rfl (by decide) ?_
      exact aw_zret d_LineReader_takeComma_39 rfl rfl (ax_retZ hJ rfl)
    · rw [if_neg c3] at hJ
      refine aw_iconst (n := 35) (v := 1) d_LineReader_takeComma_34 rfl (by decide) ?_
      refine aw_goto (t := 39) d_LineReader_takeComma_35 (by decide) ?_
      exact aw_zret d_LineReader_takeComma_39 rfl rfl (ax_retZ hJ rfl)
abbrev b_LineReader_takeClose : ByteArray := prog_2_method_14_code
def y_LineReader_takeClose : MethodName := ⟨"DotConsole$LineReader", "takeClose", "()Z"⟩
theorem d_LineReader_takeClose_0 : decode b_LineReader_takeClose 0 = .ok (.aload_n 0, 1) := by decide +kernel
theorem d_LineReader_takeClose_1 : decode b_LineReader_takeClose 1 = .ok (.iconst 1, 1) := by decide +kernel
theorem d_LineReader_takeClose_2 : decode b_LineReader_takeClose 2 = .ok (.invokevirtual 111, 3) := by decide +kernel
theorem d_LineReader_takeClose_5 : decode b_LineReader_takeClose 5 = .ok (.aload_n 0, 1) := by decide +kernel
theorem d_LineReader_takeClose_6 : decode b_LineReader_takeClose 6 = .ok (.getfield 85, 3) := by decide +kernel
theorem d_LineReader_takeClose_9 : decode b_LineReader_takeClose 9 = .ok (.ifCond .eq 17, 3) := by decide +kernel
theorem d_LineReader_takeClose_12 : decode b_LineReader_takeClose 12 = .ok (.aload_n 0, 1) := by decide +kernel
theorem d_LineReader_takeClose_13 : decode b_LineReader_takeClose 13 = .ok (.getfield 27, 3) := by decide +kernel
theorem d_LineReader_takeClose_16 : decode b_LineReader_takeClose 16 = .ok (.aload_n 0, 1) := by decide +kernel
theorem d_LineReader_takeClose_17 : decode b_LineReader_takeClose 17 = .ok (.getfield 85, 3) := by decide +kernel
theorem d_LineReader_takeClose_20 : decode b_LineReader_takeClose 20 = .ok (.iconst 1, 1) := by decide +kernel
theorem d_LineReader_takeClose_21 : decode b_LineReader_takeClose 21 = .ok (.isub, 1) := by decide +kernel
theorem d_LineReader_takeClose_22 : decode b_LineReader_takeClose 22 = .ok (.iaload, 1) := by decide +kernel
theorem d_LineReader_takeClose_23 : decode b_LineReader_takeClose 23 = .ok (.ifCond .le 5, 3) := by decide +kernel
theorem d_LineReader_takeClose_26 : decode b_LineReader_takeClose 26 = .ok (.iconst 0, 1) := by decide +kernel
theorem d_LineReader_takeClose_27 : decode b_LineReader_takeClose 27 = .ok (.ireturn, 1) := by decide +kernel
theorem d_LineReader_takeClose_28 : decode b_LineReader_takeClose 28 = .ok (.aload_n 0, 1) := by decide +kernel
theorem d_LineReader_takeClose_29 : decode b_LineReader_takeClose 29 = .ok (.dup, 1) := by decide +kernel
theorem d_LineReader_takeClose_30 : decode b_LineReader_takeClose 30 = .ok (.getfield 85, 3) := by decide +kernel
theorem d_LineReader_takeClose_33 : decode b_LineReader_takeClose 33 = .ok (.iconst 1, 1) := by decide +kernel
theorem d_LineReader_takeClose_34 : decode b_LineReader_takeClose 34 = .ok (.isub, 1) := by decide +kernel
theorem d_LineReader_takeClose_35 : decode b_LineReader_takeClose 35 = .ok (.putfield 85, 3) := by decide +kernel
theorem d_LineReader_takeClose_38 : decode b_LineReader_takeClose 38 = .ok (.aload_n 0, 1) := by decide +kernel
theorem d_LineReader_takeClose_39 : decode b_LineReader_takeClose 39 = .ok (.getfield 21, 3) := by decide +kernel
theorem d_LineReader_takeClose_42 : decode b_LineReader_takeClose 42 = .ok (.aload_n 0, 1) := by decide +kernel
theorem d_LineReader_takeClose_43 : decode b_LineReader_takeClose 43 = .ok (.getfield 85, 3) := by decide +kernel
theorem d_LineReader_takeClose_46 : decode b_LineReader_takeClose 46 = .ok (.iaload, 1) := by decide +kernel
theorem d_LineReader_takeClose_47 : decode b_LineReader_takeClose 47 = .ok (.istore_n 1, 1) := by decide +kernel
theorem d_LineReader_takeClose_48 : decode b_LineReader_takeClose 48 = .ok (.iload_n 1, 1) := by decide +kernel
theorem d_LineReader_takeClose_49 : decode b_LineReader_takeClose 49 = .ok (.bipush 40, 2) := by decide +kernel
theorem d_LineReader_takeClose_51 : decode b_LineReader_takeClose 51 = .ok (.if_icmp .eq 16, 3) := by decide +kernel
theorem d_LineReader_takeClose_54 : decode b_LineReader_takeClose 54 = .ok (.aload_n 0, 1) := by decide +kernel
theorem d_LineReader_takeClose_55 : decode b_LineReader_takeClose 55 = .ok (.iload_n 1, 1) := by decide +kernel
theorem d_LineReader_takeClose_56 : decode b_LineReader_takeClose 56 = .ok (.iconst 0, 1) := by decide +kernel
theorem d_LineReader_takeClose_57 : decode b_LineReader_takeClose 57 = .ok (.getstatic 68, 3) := by decide +kernel
theorem d_LineReader_takeClose_60 : decode b_LineReader_takeClose 60 = .ok (.iload_n 1, 1) := by decide +kernel
theorem d_LineReader_takeClose_61 : decode b_LineReader_takeClose 61 = .ok (.iconst 4, 1) := by decide +kernel
theorem d_LineReader_takeClose_62 : decode b_LineReader_takeClose 62 = .ok (.isub, 1) := by decide +kernel
theorem d_LineReader_takeClose_63 : decode b_LineReader_takeClose 63 = .ok (.iaload, 1) := by decide +kernel
theorem d_LineReader_takeClose_64 : decode b_LineReader_takeClose 64 = .ok (.invokevirtual 115, 3) := by decide +kernel
theorem d_LineReader_takeClose_67 : decode b_LineReader_takeClose 67 = .ok (.iconst 1, 1) := by decide +kernel
theorem d_LineReader_takeClose_68 : decode b_LineReader_takeClose 68 = .ok (.ireturn, 1) := by decide +kernel
def μ_LineReader_takeClose : ax_M := (b_LineReader_takeClose, 2, "DotConsole$LineReader", (some .boolean), 3, 68, 0, 0)
theorem Y_LineReader_takeClose : ax_YV μ_LineReader_takeClose y_LineReader_takeClose 0 := ⟨⟨ax_mem (by decide +kernel) rfl, ax_mem (by decide +kernel) rfl, by decide, by decide, by decide +kernel⟩, ax_mem (by decide +kernel) rfl, ax_mem (by decide +kernel) rfl⟩
theorem kf_LineReader_68 : Cond.fieldLinkNest "DotConsole$LineReader" 68 "DotConsole" "PARTS" "[I" "DotConsole" ∈ ax_N := by decide +kernel
def J_LineReader_takeClose (N : Nat) (σ : St) : Option (Int32 × St) :=
  ax_bindV (J_LineReader_unwind N 1 σ) (fun σ1 =>
  (if (σ1.1 13) = 0 then
  some (0, σ1)
  else (if (inB ((σ1.1 13) - 1) 48) = true then (if (σ1.2 11 ((σ1.1 13) - 1).toNatClampNeg) ≤ 0 then
  ax_let (sF σ1 13 ((σ1.1 13) - 1)) (fun σ2 =>
  (if (inB (σ2.1 13) 48) = true then ax_let ((σ2.2 9 (σ2.1 13).toNatClampNeg) : Int32) (fun v1 =>
  (if v1 = 40 then
  some (1, σ2)
  else (if (inB (v1 - 4) 17) = true then ax_bindV (J_LineReader_emit N v1 0 (tPARTS (v1 - 4).toNatClampNeg) σ2) (fun σ3 =>
  some (1, σ3)) else none))) else none))
  else some (0, σ1)) else none)))
set_option maxHeartbeats 1000000 in
theorem c_LineReader_takeClose {N : Nat} {g : ax_G} {σ : St} {r9 : Int32} {s9 : St} (hJ : J_LineReader_takeClose N σ = some (r9, s9)) : ax_CI μ_LineReader_takeClose g y_LineReader_takeClose (wC g) [.ref (g.2.1 9)] σ (ax_eqZ r9 s9) := by
  refine ax_CI.of (plainFor_of_name rfl) rfl (Nat.le_of_ble_eq_true rfl) (fun x A _ => ?_)
  show AW x μ_LineReader_takeClose g A (wC g) (0, 0) (ax_QI x μ_LineReader_takeClose g A (wC g) (ax_eqZ r9 s9)) 0 [(0, .ref (g.2.1 9))] [] σ
  rw [J_LineReader_takeClose] at hJ
  refine aw_aload_n (n := 1) d_LineReader_takeClose_0 rfl rfl 0 rfl ?_
  refine aw_iconst (n := 2) (v := 1) d_LineReader_takeClose_1 rfl (by decide) ?_
  obtain ⟨σ1, hc1, hJ⟩ := ax_bindVE hJ
  refine aw_callVv (n := 5) (c_LineReader_unwind hc1) 9 rfl rfl Y_LineReader_unwind km_LineReader_111 (by decide) (by decide) rfl rfl (Nat.le_of_ble_eq_true rfl) d_LineReader_takeClose_2 rfl (fun s9 hp => ?_)
  subst hp
  refine aw_aload_n (n := 6) d_LineReader_takeClose_5 rfl rfl 0 rfl ?_
  refine gf_LineReader_waitingCount (n := 9) d_LineReader_takeClose_6 rfl kf_LineReader_85 ?_
  refine aw_if_eq (n := 12) (t := 26) d_LineReader_takeClose_9 rfl (by decide) (fun c1 => ?_) (fun c1 => ?_)
  · rw [if_pos c1] at hJ
    refine aw_iconst (n := 27) (v := 0) d_LineReader_takeClose_26 rfl (by decide) ?_
    exact aw_zret d_LineReader_takeClose_27 rfl rfl (ax_retZ hJ rfl)
  · rw [if_neg c1] at hJ
    refine aw_aload_n (n := 13) d_LineReader_takeClose_12 rfl rfl 0 rfl ?_
    refine gf_LineReader_commasDue (n := 16) d_LineReader_takeClose_13 rfl kf_LineReader_27 ?_
    refine aw_aload_n (n := 17) d_LineReader_takeClose_16 rfl rfl 0 rfl ?_
    refine gf_LineReader_waitingCount (n := 20) d_LineReader_takeClose_17 rfl kf_LineReader_85 ?_
    refine aw_iconst (n := 21) (v := 1) d_LineReader_takeClose_20 rfl (by decide) ?_
    refine aw_isub (n := 22) d_LineReader_takeClose_21 rfl ?_
    obtain ⟨h1, hJ⟩ := ax_need hJ
    refine al_15 (n := 23) d_LineReader_takeClose_22 rfl h1 ?_
    refine aw_if_le (n := 26) (t := 28) d_LineReader_takeClose_23 rfl (by decide) (fun c2 => ?_) (fun c2 => ?_)
    · rw [if_pos c2] at hJ
      refine aw_aload_n (n := 29) d_LineReader_takeClose_28 rfl rfl 0 rfl ?_
      refine aw_dup (n := 30) d_LineReader_takeClose_29 rfl rfl ?_
      refine gf_LineReader_waitingCount (n := 33) d_LineReader_takeClose_30 rfl kf_LineReader_85 ?_
      refine aw_iconst (n := 34) (v := 1) d_LineReader_takeClose_33 rfl (by decide) ?_
      refine aw_isub (n := 35) d_LineReader_takeClose_34 rfl ?_
      refine pf_LineReader_waitingCount (n := 38) d_LineReader_takeClose_35 rfl kf_LineReader_85 ?_
      obtain ⟨σ2, eσ2, hJ⟩ := ax_letE hJ
      refine aw_let eσ2 ?_
      refine aw_aload_n (n := 39) d_LineReader_takeClose_38 rfl rfl 0 rfl ?_
      refine gf_LineReader_waiting (n := 42) d_LineReader_takeClose_39 rfl kf_LineReader_21 ?_
      refine aw_aload_n (n := 43) d_LineReader_takeClose_42 rfl rfl 0 rfl ?_
      refine gf_LineReader_waitingCount (n := 46) d_LineReader_takeClose_43 rfl kf_LineReader_85 ?_
      obtain ⟨h2, hJ⟩ := ax_need hJ
      refine al_13 (n := 47) d_LineReader_takeClose_46 rfl h2 ?_
      obtain ⟨v1, ev1, hJ⟩ := ax_letE hJ
      refine aw_top ev1 ?_
      refine aw_istore_n (n := 48) d_LineReader_takeClose_47 rfl rfl (by decide) rfl ?_
      refine aw_iload_n (n := 49) d_LineReader_takeClose_48 rfl rfl 0 rfl ?_
      refine aw_bipush (n := 51) (v := 40) d_LineReader_takeClose_49 rfl (by decide) ?_
      refine aw_icmp_eq (n := 54) (t := 67) d_LineReader_takeClose_51 rfl (by decide) (fun c3 => ?_) (fun c3 => ?_)
      · rw [if_pos c3] at hJ
        refine aw_iconst (n := 68) (v := 1) d_LineReader_takeClose_67 rfl (by decide) ?_
        exact aw_zret d_LineReader_takeClose_68 rfl rfl (ax_retZ hJ rfl)
      · rw [if_neg c3] at hJ
        refine aw_aload_n (n := 55) d_LineReader_takeClose_54 rfl rfl 1 rfl ?_
        refine aw_iload_n (n := 56) d_LineReader_takeClose_55 rfl rfl 0 rfl ?_
        refine aw_iconst (n := 57) (v := 0) d_LineReader_takeClose_56 rfl (by decide) ?_
        refine gs_PARTSN (n := 60) d_LineReader_takeClose_57 rfl kf_LineReader_68 ?_
        refine aw_iload_n (n := 61) d_LineReader_takeClose_60 rfl rfl 0 rfl ?_
        refine aw_iconst (n := 62) (v := 4) d_LineReader_takeClose_61 rfl (by decide) ?_
        refine aw_isub (n := 63) d_LineReader_takeClose_62 rfl ?_
        obtain ⟨h3, hJ⟩ := ax_need hJ
        refine al_PARTS (n := 64) d_LineReader_takeClose_63 rfl h3 ?_
        obtain ⟨σ3, hc2, hJ⟩ := ax_bindVE hJ
        refine aw_callVv (n := 67) (c_LineReader_emit hc2) 9 rfl rfl Y_LineReader_emit km_LineReader_115 (by decide) (by decide) rfl rfl (Nat.le_of_ble_eq_true rfl) d_LineReader_takeClose_64 rfl (fun s9 hp => ?_)
        subst hp
        refine aw_iconst (n := 68) (v := 1) d_LineReader_takeClose_67 rfl (by decide) ?_
        exact aw_zret d_LineReader_takeClose_68 rfl rfl (ax_retZ hJ rfl)
    · rw [if_neg c2] at hJ
      refine aw_iconst (n := 27) (v := 0) d_LineReader_takeClose_26 rfl (by decide) ?_
      exact aw_zret d_LineReader_takeClose_27 rfl rfl (ax_retZ hJ rfl)
abbrev b_LineReader_waitsForTest : ByteArray := prog_2_method_13_code
def y_LineReader_waitsForTest : MethodName := ⟨"DotConsole$LineReader", "waitsForTest", "()Z"⟩
theorem d_LineReader_waitsForTest_0 : decode b_LineReader_waitsForTest 0 = .ok (.aload_n 0, 1) := by decide +kernel
theorem d_LineReader_waitsForTest_1 : decode b_LineReader_waitsForTest 1 = .ok (.getfield 85, 3) := by decide +kernel
theorem d_LineReader_waitsForTest_4 : decode b_LineReader_waitsForTest 4 = .ok (.ifCond .le 22, 3) := by decide +kernel
theorem d_LineReader_waitsForTest_7 : decode b_LineReader_waitsForTest 7 = .ok (.aload_n 0, 1) := by decide +kernel
theorem d_LineReader_waitsForTest_8 : decode b_LineReader_waitsForTest 8 = .ok (.getfield 24, 3) := by decide +kernel
theorem d_LineReader_waitsForTest_11 : decode b_LineReader_waitsForTest 11 = .ok (.aload_n 0, 1) := by decide +kernel
theorem d_LineReader_waitsForTest_12 : decode b_LineReader_waitsForTest 12 = .ok (.getfield 85, 3) := by decide +kernel
theorem d_LineReader_waitsForTest_15 : decode b_LineReader_waitsForTest 15 = .ok (.iconst 1, 1) := by decide +kernel
theorem d_LineReader_waitsForTest_16 : decode b_LineReader_waitsForTest 16 = .ok (.isub, 1) := by decide +kernel
theorem d_LineReader_waitsForTest_17 : decode b_LineReader_waitsForTest 17 = .ok (.iaload, 1) := by decide +kernel
theorem d_LineReader_waitsForTest_18 : decode b_LineReader_waitsForTest 18 = .ok (.iconst 3, 1) := by decide +kernel
theorem d_LineReader_waitsForTest_19 : decode b_LineReader_waitsForTest 19 = .ok (.if_icmp .ne 7, 3) := by decide +kernel
theorem d_LineReader_waitsForTest_22 : decode b_LineReader_waitsForTest 22 = .ok (.iconst 1, 1) := by decide +kernel
theorem d_LineReader_waitsForTest_23 : decode b_LineReader_waitsForTest 23 = .ok (.goto 4, 3) := by decide +kernel
theorem d_LineReader_waitsForTest_26 : decode b_LineReader_waitsForTest 26 = .ok (.iconst 0, 1) := by decide +kernel
theorem d_LineReader_waitsForTest_27 : decode b_LineReader_waitsForTest 27 = .ok (.ireturn, 1) := by decide +kernel
def μ_LineReader_waitsForTest : ax_M := (b_LineReader_waitsForTest, 1, "DotConsole$LineReader", (some .boolean), 0, 0, 0, 0)
theorem Y_LineReader_waitsForTest : ax_YV μ_LineReader_waitsForTest y_LineReader_waitsForTest 0 := ⟨⟨ax_mem (by decide +kernel) rfl, ax_mem (by decide +kernel) rfl, by decide, by decide, by decide +kernel⟩, ax_mem (by decide +kernel) rfl, ax_mem (by decide +kernel) rfl⟩
def J_LineReader_waitsForTest (N : Nat) (σ : St) : Option (Int32 × St) :=
  (if (σ.1 13) ≤ 0 then
  some (0, σ)
  else (if (inB ((σ.1 13) - 1) 48) = true then (if (σ.2 10 ((σ.1 13) - 1).toNatClampNeg) = 3 then
  some (1, σ)
  else some (0, σ)) else none))
set_option maxHeartbeats 1000000 in
theorem c_LineReader_waitsForTest {N : Nat} {g : ax_G} {σ : St} {r9 : Int32} {s9 : St} (hJ : J_LineReader_waitsForTest N σ = some (r9, s9)) : ax_CI μ_LineReader_waitsForTest g y_LineReader_waitsForTest (wC g) [.ref (g.2.1 9)] σ (ax_eqZ r9 s9) := by
  refine ax_CI.of (plainFor_of_name rfl) rfl (Nat.le_of_ble_eq_true rfl) (fun x A _ => ?_)
  show AW x μ_LineReader_waitsForTest g A (wC g) (0, 0) (ax_QI x μ_LineReader_waitsForTest g A (wC g) (ax_eqZ r9 s9)) 0 [(0, .ref (g.2.1 9))] [] σ
  rw [J_LineReader_waitsForTest] at hJ
  refine aw_aload_n (n := 1) d_LineReader_waitsForTest_0 rfl rfl 0 rfl ?_
  refine gf_LineReader_waitingCount (n := 4) d_LineReader_waitsForTest_1 rfl kf_LineReader_85 ?_
  refine aw_if_le (n := 7) (t := 26) d_LineReader_waitsForTest_4 rfl (by decide) (fun c1 => ?_) (fun c1 => ?_)
  · rw [if_pos c1] at hJ
    refine aw_iconst (n := 27) (v := 0) d_LineReader_waitsForTest_26 rfl (by decide) ?_
    exact aw_zret d_LineReader_waitsForTest_27 rfl rfl (ax_retZ hJ rfl)
  · rw [if_neg c1] at hJ
    refine aw_aload_n (n := 8) d_LineReader_waitsForTest_7 rfl rfl 0 rfl ?_
    refine gf_LineReader_waitingRanks (n := 11) d_LineReader_waitsForTest_8 rfl kf_LineReader_24 ?_
    refine aw_aload_n (n := 12) d_LineReader_waitsForTest_11 rfl rfl 0 rfl ?_
    refine gf_LineReader_waitingCount (n := 15) d_LineReader_waitsForTest_12 rfl kf_LineReader_85 ?_
    refine aw_iconst (n := 16) (v := 1) d_LineReader_waitsForTest_15 rfl (by decide) ?_
    refine aw_isub (n := 17) d_LineReader_waitsForTest_16 rfl ?_
    obtain ⟨h1, hJ⟩ := ax_need hJ
    refine al_14 (n := 18) d_LineReader_waitsForTest_17 rfl h1 ?_
    refine aw_iconst (n := 19) (v := 3) d_LineReader_waitsForTest_18 rfl (by decide) ?_
    refine aw_icmp_ne (n := 22) (t := 26) d_LineReader_waitsForTest_19 rfl (by decide) (fun c2 => ?_) (fun c2 => ?_)
    · rw [if_neg c2] at hJ
      refine aw_iconst (n := 27) (v := 0) d_LineReader_waitsForTest_26 rfl (by decide) ?_
      exact aw_zret d_LineReader_waitsForTest_27 rfl rfl (ax_retZ hJ rfl)
    · rw [if_pos c2] at hJ
      refine aw_iconst (n := 23) (v := 1) d_LineReader_waitsForTest_22 rfl (by decide) ?_
      refine aw_goto (t := 27) d_LineReader_waitsForTest_23 (by decide) ?_
      exact aw_zret d_LineReader_waitsForTest_27 rfl rfl (ax_retZ hJ rfl)
abbrev b_LineReader_hold : ByteArray := prog_2_method_16_code
def y_LineReader_hold : MethodName := ⟨"DotConsole$LineReader", "hold", "(III)V"⟩
theorem d_LineReader_hold_0 : decode b_LineReader_hold 0 = .ok (.aload_n 0, 1) := by decide +kernel
theorem d_LineReader_hold_1 : decode b_LineReader_hold 1 = .ok (.getfield 21, 3) := by decide +kernel
theorem d_LineReader_hold_4 : decode b_LineReader_hold 4 = .ok (.aload_n 0, 1) := by decide +kernel
theorem d_LineReader_hold_5 : decode b_LineReader_hold 5 = .ok (.getfield 85, 3) := by decide +kernel
theorem d_LineReader_hold_8 : decode b_LineReader_hold 8 = .ok (.iload_n 1, 1) := by decide +kernel
theorem d_LineReader_hold_9 : decode b_LineReader_hold 9 = .ok (.iastore, 1) := by decide +kernel
theorem d_LineReader_hold_10 : decode b_LineReader_hold 10 = .ok (.aload_n 0, 1) := by decide +kernel
theorem d_LineReader_hold_11 : decode b_LineReader_hold 11 = .ok (.getfield 24, 3) := by decide +kernel
theorem d_LineReader_hold_14 : decode b_LineReader_hold 14 = .ok (.aload_n 0, 1) := by decide +kernel
theorem d_LineReader_hold_15 : decode b_LineReader_hold 15 = .ok (.getfield 85, 3) := by decide +kernel
theorem d_LineReader_hold_18 : decode b_LineReader_hold 18 = .ok (.iload_n 2, 1) := by decide +kernel
theorem d_LineReader_hold_19 : decode b_LineReader_hold 19 = .ok (.iastore, 1) := by decide +kernel
theorem d_LineReader_hold_20 : decode b_LineReader_hold 20 = .ok (.aload_n 0, 1) := by decide +kernel
theorem d_LineReader_hold_21 : decode b_LineReader_hold 21 = .ok (.getfield 27, 3) := by decide +kernel
theorem d_LineReader_hold_24 : decode b_LineReader_hold 24 = .ok (.aload_n 0, 1) := by decide +kernel
theorem d_LineReader_hold_25 : decode b_LineReader_hold 25 = .ok (.getfield 85, 3) := by decide +kernel
theorem d_LineReader_hold_28 : decode b_LineReader_hold 28 = .ok (.iload_n 3, 1) := by decide +kernel
theorem d_LineReader_hold_29 : decode b_LineReader_hold 29 = .ok (.iastore, 1) := by decide +kernel
theorem d_LineReader_hold_30 : decode b_LineReader_hold 30 = .ok (.aload_n 0, 1) := by decide +kernel
theorem d_LineReader_hold_31 : decode b_LineReader_hold 31 = .ok (.dup, 1) := by decide +kernel
theorem d_LineReader_hold_32 : decode b_LineReader_hold 32 = .ok (.getfield 85, 3) := by decide +kernel
theorem d_LineReader_hold_35 : decode b_LineReader_hold 35 = .ok (.iconst 1, 1) := by decide +kernel
theorem d_LineReader_hold_36 : decode b_LineReader_hold 36 = .ok (.iadd, 1) := by decide +kernel
theorem d_LineReader_hold_37 : decode b_LineReader_hold 37 = .ok (.putfield 85, 3) := by decide +kernel
theorem d_LineReader_hold_40 : decode b_LineReader_hold 40 = .ok (.aload_n 0, 1) := by decide +kernel
theorem d_LineReader_hold_41 : decode b_LineReader_hold 41 = .ok (.iconst 1, 1) := by decide +kernel
theorem d_LineReader_hold_42 : decode b_LineReader_hold 42 = .ok (.putfield 98, 3) := by decide +kernel
theorem d_LineReader_hold_45 : decode b_LineReader_hold 45 = .ok (.return_, 1) := by decide +kernel
def μ_LineReader_hold : ax_M := (b_LineReader_hold, 4, "DotConsole$LineReader", none, 0, 0, 0, 0)
theorem Y_LineReader_hold : ax_YV μ_LineReader_hold y_LineReader_hold 3 := ⟨⟨ax_mem (by decide +kernel) rfl, ax_mem (by decide +kernel) rfl, by decide, by decide, by decide +kernel⟩, ax_mem (by decide +kernel) rfl, ax_mem (by decide +kernel) rfl⟩
def J_LineReader_hold (N : Nat) (a1 : Int32) (a2 : Int32) (a3 : Int32) (σ : St) : Option St :=
  (if (inB (σ.1 13) 48) = true then ax_let (sA σ 9 (σ.1 13).toNatClampNeg a1) (fun σ1 =>
  (if (inB (σ1.1 13) 48) = true then ax_let (sA σ1 10 (σ1.1 13).toNatClampNeg a2) (fun σ2 =>
  (if (inB (σ2.1 13) 48) = true then ax_let (sA σ2 11 (σ2.1 13).toNatClampNeg a3) (fun σ3 =>
  ax_let (sF σ3 13 ((σ3.1 13) + 1)) (fun σ4 =>
  ax_let (sF σ4 15 1) (fun σ5 =>
  some σ5))) else none)) else none)) else none)
set_option maxHeartbeats 1000000 in
theorem c_LineReader_hold {N : Nat} {g : ax_G} {a1 : Int32} {a2 : Int32} {a3 : Int32} {σ : St} {s9 : St} (hJ : J_LineReader_hold N a1 a2 a3 σ = some s9) : ax_CV μ_LineReader_hold g y_LineReader_hold (wC g) [.ref (g.2.1 9), .int a1, .int a2, .int a3] σ (ax_eqV s9) := by
  refine ax_CV.of (plainFor_of_name rfl) rfl (Nat.le_of_ble_eq_true rfl) (fun x A _ => ?_)
  show AW x μ_LineReader_hold g A (wC g) (0, 0) (ax_QV x μ_LineReader_hold g A (wC g) (ax_eqV s9)) 0 [(0, .ref (g.2.1 9)), (1, .int a1), (2, .int a2), (3, .int a3)] [] σ
  rw [J_LineReader_hold] at hJ
  refine aw_aload_n (n := 1) d_LineReader_hold_0 rfl rfl 0 rfl ?_
  refine gf_LineReader_waiting (n := 4) d_LineReader_hold_1 rfl kf_LineReader_21 ?_
  refine aw_aload_n (n := 5) d_LineReader_hold_4 rfl rfl 0 rfl ?_
  refine gf_LineReader_waitingCount (n := 8) d_LineReader_hold_5 rfl kf_LineReader_85 ?_
  refine aw_iload_n (n := 9) d_LineReader_hold_8 rfl rfl 1 rfl ?_
  obtain ⟨h1, hJ⟩ := ax_need hJ
  refine as_13 (n := 10) d_LineReader_hold_9 rfl h1 ?_
  obtain ⟨σ1, eσ1, hJ⟩ := ax_letE hJ
  refine aw_let eσ1 ?_
  refine aw_aload_n (n := 11) d_LineReader_hold_10 rfl rfl 0 rfl ?_
  refine gf_LineReader_waitingRanks (n := 14) d_LineReader_hold_11 rfl kf_LineReader_24 ?_
  refine aw_aload_n (n := 15) d_LineReader_hold_14 rfl rfl 0 rfl ?_
  refine gf_LineReader_waitingCount (n := 18) d_LineReader_hold_15 rfl kf_LineReader_85 ?_
  refine aw_iload_n (n := 19) d_LineReader_hold_18 rfl rfl 2 rfl ?_
  obtain ⟨h2, hJ⟩ := ax_need hJ
  refine as_14 (n := 20) d_LineReader_hold_19 rfl h2 ?_
  obtain ⟨σ2, eσ2, hJ⟩ := ax_letE hJ
  refine aw_let eσ2 ?_
  refine aw_aload_n (n := 21) d_LineReader_hold_20 rfl rfl 0 rfl ?_
  refine gf_LineReader_commasDue (n := 24) d_LineReader_hold_21 rfl kf_LineReader_27 ?_
  refine aw_aload_n (n := 25) d_LineReader_hold_24 rfl rfl 0 rfl ?_
  refine gf_LineReader_waitingCount (n := 28) d_LineReader_hold_25 rfl kf_LineReader_85 ?_
  refine aw_iload_n (n := 29) d_LineReader_hold_28 rfl rfl 3 rfl ?_
  obtain ⟨h3, hJ⟩ := ax_need hJ
  refine as_15 (n := 30) d_LineReader_hold_29 rfl h3 ?_
  obtain ⟨σ3, eσ3, hJ⟩ := ax_letE hJ
  refine aw_let eσ3 ?_
  refine aw_aload_n (n := 31) d_LineReader_hold_30 rfl rfl 0 rfl ?_
  refine aw_dup (n := 32) d_LineReader_hold_31 rfl rfl ?_
  refine gf_LineReader_waitingCount (n := 35) d_LineReader_hold_32 rfl kf_LineReader_85 ?_
  refine aw_iconst (n := 36) (v := 1) d_LineReader_hold_35 rfl (by decide) ?_
  refine aw_iadd (n := 37) d_LineReader_hold_36 rfl ?_
  refine pf_LineReader_waitingCount (n := 40) d_LineReader_hold_37 rfl kf_LineReader_85 ?_
  obtain ⟨σ4, eσ4, hJ⟩ := ax_letE hJ
  refine aw_let eσ4 ?_
  refine aw_aload_n (n := 41) d_LineReader_hold_40 rfl rfl 0 rfl ?_
  refine aw_iconst (n := 42) (v := 1) d_LineReader_hold_41 rfl (by decide) ?_
  refine pf_LineReader_wantsPart (n := 45) d_LineReader_hold_42 rfl kf_LineReader_98 rfl rfl ?_
  obtain ⟨σ5, eσ5, hJ⟩ := ax_letE hJ
  refine aw_let eσ5 ?_
  exact aw_vret d_LineReader_hold_45 rfl (ax_retV hJ)
abbrev b_LineReader_takeJoin : ByteArray := prog_2_method_12_code
def y_LineReader_takeJoin : MethodName := ⟨"DotConsole$LineReader", "takeJoin", "(I)Z"⟩
theorem d_LineReader_takeJoin_0 : decode b_LineReader_takeJoin 0 = .ok (.iload_n 1, 1) := by decide +kernel
theorem d_LineReader_takeJoin_1 : decode b_LineReader_takeJoin 1 = .ok (.bipush 41, 2) := by decide +kernel
theorem d_LineReader_takeJoin_3 : decode b_LineReader_takeJoin 3 = .ok (.if_icmp .ne 8, 3) := by decide +kernel
theorem d_LineReader_takeJoin_6 : decode b_LineReader_takeJoin 6 = .ok (.aload_n 0, 1) := by decide +kernel
theorem d_LineReader_takeJoin_7 : decode b_LineReader_takeJoin 7 = .ok (.invokevirtual 128, 3) := by decide +kernel
theorem d_LineReader_takeJoin_10 : decode b_LineReader_takeJoin 10 = .ok (.ireturn, 1) := by decide +kernel
theorem d_LineReader_takeJoin_11 : decode b_LineReader_takeJoin 11 = .ok (.iload_n 1, 1) := by decide +kernel
theorem d_LineReader_takeJoin_12 : decode b_LineReader_takeJoin 12 = .ok (.bipush 44, 2) := by decide +kernel
theorem d_LineReader_takeJoin_14 : decode b_LineReader_takeJoin 14 = .ok (.if_icmp .ne 8, 3) := by decide +kernel
theorem d_LineReader_takeJoin_17 : decode b_LineReader_takeJoin 17 = .ok (.aload_n 0, 1) := by decide +kernel
theorem d_LineReader_takeJoin_18 : decode b_LineReader_takeJoin 18 = .ok (.invokevirtual 131, 3) := by decide +kernel
theorem d_LineReader_takeJoin_21 : decode b_LineReader_takeJoin 21 = .ok (.ireturn, 1) := by decide +kernel
theorem d_LineReader_takeJoin_22 : decode b_LineReader_takeJoin 22 = .ok (.iload_n 1, 1) := by decide +kernel
theorem d_LineReader_takeJoin_23 : decode b_LineReader_takeJoin 23 = .ok (.invokestatic 134, 3) := by decide +kernel
theorem d_LineReader_takeJoin_26 : decode b_LineReader_takeJoin 26 = .ok (.istore_n 2, 1) := by decide +kernel
theorem d_LineReader_takeJoin_27 : decode b_LineReader_takeJoin 27 = .ok (.iload_n 2, 1) := by decide +kernel
theorem d_LineReader_takeJoin_28 : decode b_LineReader_takeJoin 28 = .ok (.ifCond .eq 9, 3) := by decide +kernel
theorem d_LineReader_takeJoin_31 : decode b_LineReader_takeJoin 31 = .ok (.iload_n 2, 1) := by decide +kernel
theorem d_LineReader_takeJoin_32 : decode b_LineReader_takeJoin 32 = .ok (.bipush 6, 2) := by decide +kernel
theorem d_LineReader_takeJoin_34 : decode b_LineReader_takeJoin 34 = .ok (.if_icmp .ne 5, 3) := by decide +kernel
theorem d_LineReader_takeJoin_37 : decode b_LineReader_takeJoin 37 = .ok (.iconst 0, 1) := by decide +kernel
theorem d_LineReader_takeJoin_38 : decode b_LineReader_takeJoin 38 = .ok (.ireturn, 1) := by decide +kernel
theorem d_LineReader_takeJoin_39 : decode b_LineReader_takeJoin 39 = .ok (.aload_n 0, 1) := by decide +kernel
theorem d_LineReader_takeJoin_40 : decode b_LineReader_takeJoin 40 = .ok (.iload_n 2, 1) := by decide +kernel
theorem d_LineReader_takeJoin_41 : decode b_LineReader_takeJoin 41 = .ok (.iconst 3, 1) := by decide +kernel
theorem d_LineReader_takeJoin_42 : decode b_LineReader_takeJoin 42 = .ok (.if_icmp .ne 7, 3) := by decide +kernel
theorem d_LineReader_takeJoin_45 : decode b_LineReader_takeJoin 45 = .ok (.iconst 4, 1) := by decide +kernel
theorem d_LineReader_takeJoin_46 : decode b_LineReader_takeJoin 46 = .ok (.goto 4, 3) := by decide +kernel
theorem d_LineReader_takeJoin_49 : decode b_LineReader_takeJoin 49 = .ok (.iload_n 2, 1) := by decide +kernel
theorem d_LineReader_takeJoin_50 : decode b_LineReader_takeJoin 50 = .ok (.invokevirtual 111, 3) := by decide +kernel
theorem d_LineReader_takeJoin_53 : decode b_LineReader_takeJoin 53 = .ok (.iload_n 2, 1) := by decide +kernel
theorem d_LineReader_takeJoin_54 : decode b_LineReader_takeJoin 54 = .ok (.iconst 3, 1) := by decide +kernel
theorem d_LineReader_takeJoin_55 : decode b_LineReader_takeJoin 55 = .ok (.if_icmp .ne 12, 3) := by decide +kernel
theorem d_LineReader_takeJoin_58 : decode b_LineReader_takeJoin 58 = .ok (.aload_n 0, 1) := by decide +kernel
theorem d_LineReader_takeJoin_59 : decode b_LineReader_takeJoin 59 = .ok (.invokevirtual 137, 3) := by decide +kernel
theorem d_LineReader_takeJoin_62 : decode b_LineReader_takeJoin 62 = .ok (.ifCond .eq 5, 3) := by decide +kernel
theorem d_LineReader_takeJoin_65 : decode b_LineReader_takeJoin 65 = .ok (.iconst 0, 1) := by decide +kernel
theorem d_LineReader_takeJoin_66 : decode b_LineReader_takeJoin 66 = .ok (.ireturn, 1) := by decide +kernel
theorem d_LineReader_takeJoin_67 : decode b_LineReader_takeJoin 67 = .ok (.aload_n 0, 1) := by decide +kernel
theorem d_LineReader_takeJoin_68 : decode b_LineReader_takeJoin 68 = .ok (.iload_n 1, 1) := by decide +kernel
theorem d_LineReader_takeJoin_69 : decode b_LineReader_takeJoin 69 = .ok (.iload_n 2, 1) := by decide +kernel
theorem d_LineReader_takeJoin_70 : decode b_LineReader_takeJoin 70 = .ok (.iconst 0, 1) := by decide +kernel
theorem d_LineReader_takeJoin_71 : decode b_LineReader_takeJoin 71 = .ok (.invokevirtual 119, 3) := by decide +kernel
theorem d_LineReader_takeJoin_74 : decode b_LineReader_takeJoin 74 = .ok (.iconst 1, 1) := by decide +kernel
theorem d_LineReader_takeJoin_75 : decode b_LineReader_takeJoin 75 = .ok (.ireturn, 1) := by decide +kernel
def μ_LineReader_takeJoin : ax_M := (b_LineReader_takeJoin, 3, "DotConsole$LineReader", (some .boolean), 4, 89, 0, 0)
theorem Y_LineReader_takeJoin : ax_YV μ_LineReader_takeJoin y_LineReader_takeJoin 1 := ⟨⟨ax_mem (by decide +kernel) rfl, ax_mem (by decide +kernel) rfl, by decide, by decide, by decide +kernel⟩, ax_mem (by decide +kernel) rfl, ax_mem (by decide +kernel) rfl⟩
theorem km_LineReader_119 : Cond.methodLink "DotConsole$LineReader" 119 ⟨"DotConsole$LineReader", "hold", "(III)V"⟩ ∈ ax_T := ax_mem (by decide +kernel) rfl
theorem km_LineReader_137 : Cond.methodLink "DotConsole$LineReader" 137 ⟨"DotConsole$LineReader", "waitsForTest", "()Z"⟩ ∈ ax_T := ax_mem (by decide +kernel) rfl
theorem km_LineReader_134 : Cond.methodLinkNest "DotConsole$LineReader" 134 ⟨"DotConsole", "rankOf", "(I)I"⟩ "DotConsole" ∈ ax_N := by decide +kernel
theorem km_LineReader_131 : Cond.methodLink "DotConsole$LineReader" 131 ⟨"DotConsole$LineReader", "takeComma", "()Z"⟩ ∈ ax_T := ax_mem (by decide +kernel) rfl
theorem km_LineReader_128 : Cond.methodLink "DotConsole$LineReader" 128 ⟨"DotConsole$LineReader", "takeClose", "()Z"⟩ ∈ ax_T := ax_mem (by decide +kernel) rfl
def J_LineReader_takeJoin_67 (N : Nat) (l1 : Int32) (l2 : Int32) (σ : St) : Option (Int32 × St) :=
  ax_bindV (J_LineReader_hold N l1 l2 0 σ) (fun σ6 =>
  some (1, σ6))
def J_LineReader_takeJoin_50 (N : Nat) (t0 : Int32) (l1 : Int32) (l2 : Int32) (σ : St) : Option (Int32 × St) :=
  ax_bindV (J_LineReader_unwind N t0 σ) (fun σ4 =>
  (if l2 = 3 then
  ax_bind (J_LineReader_waitsForTest N σ4) (fun r4 σ5 =>
  (if r4 = 0 then
  J_LineReader_takeJoin_67 N l1 l2 σ5
  else some (0, σ5)))
  else J_LineReader_takeJoin_67 N l1 l2 σ4))
def J_LineReader_takeJoin (N : Nat) (a1 : Int32) (σ : St) : Option (Int32 × St) :=
  (if a1 = 41 then
  ax_bind (J_LineReader_takeClose N σ) (fun r3 σ3 =>
  some (r3, σ3))
  else (if a1 = 44 then
  ax_bind (J_LineReader_takeComma N σ) (fun r2 σ2 =>
  some (r2, σ2))
  else ax_bind (J_Con_rankOf N a1 σ) (fun r1 σ1 =>
  (if r1 = 0 then
  some (0, σ1)
  else (if r1 = 6 then
  some (0, σ1)
  else (if r1 = 3 then
  J_LineReader_takeJoin_50 N 4 a1 r1 σ1
  else J_LineReader_takeJoin_50 N r1 a1 r1 σ1))))))
set_option maxHeartbeats 1000000 in
theorem t_LineReader_takeJoin_67 {N : Nat} {g : ax_G} {r9 : Int32} {s9 : St} (x : ax_X) (A : Nat → Prop) : ∀ (l1 : Int32) (l2 : Int32) (σ : St), J_LineReader_takeJoin_67 N l1 l2 σ = some (r9, s9) → AW x μ_LineReader_takeJoin g A (wC g) (0, 0) (ax_QI x μ_LineReader_takeJoin g A (wC g) (ax_eqZ r9 s9)) 67 [(0, .ref (g.2.1 9)), (1, .int l1), (2, .int l2)] [] σ := by
  intro l1 l2 σ hJ
  rw [J_LineReader_takeJoin_67] at hJ
  refine aw_aload_n (n := 68) d_LineReader_takeJoin_67 rfl rfl 0 rfl ?_
  refine aw_iload_n (n := 69) d_LineReader_takeJoin_68 rfl rfl 1 rfl ?_
  refine aw_iload_n (n := 70) d_LineReader_takeJoin_69 rfl rfl 2 rfl ?_
  refine aw_iconst (n := 71) (v := 0) d_LineReader_takeJoin_70 rfl (by decide) ?_
  obtain ⟨σ6, hc6, hJ⟩ := ax_bindVE hJ
  refine aw_callVv (n := 74) (c_LineReader_hold hc6) 9 rfl rfl Y_LineReader_hold km_LineReader_119 (by decide) (by decide) rfl rfl (Nat.le_of_ble_eq_true rfl) d_LineReader_takeJoin_71 rfl (fun s9 hp => ?_)
  subst hp
  refine aw_iconst (n := 75) (v := 1) d_LineReader_takeJoin_74 rfl (by decide) ?_
  exact aw_zret d_LineReader_takeJoin_75 rfl rfl (ax_retZ hJ rfl)
set_option maxHeartbeats 1000000 in
theorem t_LineReader_takeJoin_50 {N : Nat} {g : ax_G} {r9 : Int32} {s9 : St} (x : ax_X) (A : Nat → Prop) : ∀ (t0 : Int32) (l1 : Int32) (l2 : Int32) (σ : St), J_LineReader_takeJoin_50 N t0 l1 l2 σ = some (r9, s9) → AW x μ_LineReader_takeJoin g A (wC g) (0, 0) (ax_QI x μ_LineReader_takeJoin g A (wC g) (ax_eqZ r9 s9)) 50 [(0, .ref (g.2.1 9)), (1, .int l1), (2, .int l2)] [.int t0, .ref (g.2.1 9)] σ := by
  intro t0 l1 l2 σ hJ
  rw [J_LineReader_takeJoin_50] at hJ
  obtain ⟨σ4, hc4, hJ⟩ := ax_bindVE hJ
  refine aw_callVv (n := 53) (c_LineReader_unwind hc4) 9 rfl rfl Y_LineReader_unwind km_LineReader_111 (by decide) (by decide) rfl rfl (Nat.le_of_ble_eq_true rfl) d_LineReader_takeJoin_50 rfl (fun s9 hp => ?_)
  subst hp
  refine aw_iload_n (n := 54) d_LineReader_takeJoin_53 rfl rfl 2 rfl ?_
  refine aw_iconst (n := 55) (v := 3) d_LineReader_takeJoin_54 rfl (by decide) ?_
  refine aw_icmp_ne (n := 58) (t := 67) d_LineReader_takeJoin_55 rfl (by decide) (fun c6 => ?_) (fun c6 => ?_)
  · rw [if_neg c6] at hJ
    exact t_LineReader_takeJoin_67 x A _ _ _ hJ
  · rw [if_pos c6] at hJ
    refine aw_aload_n (n := 59) d_LineReader_takeJoin_58 rfl rfl 0 rfl ?_
    obtain ⟨r4, σ5, hc5, hJ⟩ := ax_bindE hJ
    refine aw_callVi (n := 62) (c_LineReader_waitsForTest hc5) 9 rfl rfl Y_LineReader_waitsForTest km_LineReader_137 (by decide) (by decide) rfl rfl (Nat.le_of_ble_eq_true rfl) d_LineReader_takeJoin_59 rfl (fun r9 s9 hp => ?_)
    obtain ⟨rfl, rfl, hb3⟩ := hp
    refine aw_if_eq (n := 65) (t := 67) d_LineReader_takeJoin_62 rfl (by decide) (fun c7 => ?_) (fun c7 => ?_)
    · rw [if_pos c7] at hJ
      exact t_LineReader_takeJoin_67 x A _ _ _ hJ
    · rw [if_neg c7] at hJ
      refine aw_iconst (n := 66) (v := 0) d_LineReader_takeJoin_65 rfl (by decide) ?_
      exact aw_zret d_LineReader_takeJoin_66 rfl rfl (ax_retZ hJ rfl)
set_option maxHeartbeats 1000000 in
theorem c_LineReader_takeJoin {N : Nat} {g : ax_G} {a1 : Int32} {σ : St} {r9 : Int32} {s9 : St} (hJ : J_LineReader_takeJoin N a1 σ = some (r9, s9)) : ax_CI μ_LineReader_takeJoin g y_LineReader_takeJoin (wC g) [.ref (g.2.1 9), .int a1] σ (ax_eqZ r9 s9) := by
  refine ax_CI.of (plainFor_of_name rfl) rfl (Nat.le_of_ble_eq_true rfl) (fun x A _ => ?_)
  show AW x μ_LineReader_takeJoin g A (wC g) (0, 0) (ax_QI x μ_LineReader_takeJoin g A (wC g) (ax_eqZ r9 s9)) 0 [(0, .ref (g.2.1 9)), (1, .int a1)] [] σ
  rw [J_LineReader_takeJoin] at hJ
  refine aw_iload_n (n := 1) d_LineReader_takeJoin_0 rfl rfl 1 rfl ?_
  refine aw_bipush (n := 3) (v := 41) d_LineReader_takeJoin_1 rfl (by decide) ?_
  refine aw_icmp_ne (n := 6) (t := 11) d_LineReader_takeJoin_3 rfl (by decide) (fun c1 => ?_) (fun c1 => ?_)
  · rw [if_neg c1] at hJ
    refine aw_iload_n (n := 12) d_LineReader_takeJoin_11 rfl rfl 1 rfl ?_
    refine aw_bipush (n := 14) (v := 44) d_LineReader_takeJoin_12 rfl (by decide) ?_
    refine aw_icmp_ne (n := 17) (t := 22) d_LineReader_takeJoin_14 rfl (by decide) (fun c2 => ?_) (fun c2 => ?_)
    · rw [if_neg c2] at hJ
      refine aw_iload_n (n := 23) d_LineReader_takeJoin_22 rfl rfl 1 rfl ?_
      obtain ⟨r1, σ1, hc1, hJ⟩ := ax_bindE hJ
      refine aw_callSNi (n := 26) (c_Con_rankOf hc1) Y_Con_rankOf km_LineReader_134 (by decide) (by decide) rfl rfl (Nat.le_of_ble_eq_true rfl) d_LineReader_takeJoin_23 rfl (fun r9 s9 hp => ?_)
      obtain ⟨rfl, rfl⟩ := hp
      refine aw_istore_n (n := 27) d_LineReader_takeJoin_26 rfl rfl (by decide) rfl ?_
      refine aw_iload_n (n := 28) d_LineReader_takeJoin_27 rfl rfl 0 rfl ?_
      refine aw_if_eq (n := 31) (t := 37) d_LineReader_takeJoin_28 rfl (by decide) (fun c3 => ?_) (fun c3 => ?_)
      · rw [if_pos c3] at hJ
        refine aw_iconst (n := 38) (v := 0) d_LineReader_takeJoin_37 rfl (by decide) ?_
        exact aw_zret d_LineReader_takeJoin_38 rfl rfl (ax_retZ hJ rfl)
      · rw [if_neg c3] at hJ
        refine aw_iload_n (n := 32) d_LineReader_takeJoin_31 rfl rfl 0 rfl ?_
        refine aw_bipush (n := 34) (v := 6) d_LineReader_takeJoin_32 rfl (by decide) ?_
        refine aw_icmp_ne (n := 37) (t := 39) d_LineReader_takeJoin_34 rfl (by decide) (fun c4 => ?_) (fun c4 => ?_)
        · rw [if_neg c4] at hJ
          refine aw_aload_n (n := 40) d_LineReader_takeJoin_39 rfl rfl 1 rfl ?_
          refine aw_iload_n (n := 41) d_LineReader_takeJoin_40 rfl rfl 0 rfl ?_
          refine aw_iconst (n := 42) (v := 3) d_LineReader_takeJoin_41 rfl (by decide) ?_
          refine aw_icmp_ne (n := 45) (t := 49) d_LineReader_takeJoin_42 rfl (by decide) (fun c5 => ?_) (fun c5 => ?_)
          · rw [if_neg c5] at hJ
            refine aw_iload_n (n := 50) d_LineReader_takeJoin_49 rfl rfl 0 rfl ?_
            refine aw_sub [1, 2, 0] rfl ?_
            exact t_LineReader_takeJoin_50 x A _ _ _ _ hJ
          · rw [if_pos c5] at hJ
            refine aw_iconst (n := 46) (v := 4) d_LineReader_takeJoin_45 rfl (by decide) ?_
            refine aw_goto (t := 50) d_LineReader_takeJoin_46 (by decide) ?_
            refine aw_sub [1, 2, 0] rfl ?_
            exact t_LineReader_takeJoin_50 x A _ _ _ _ hJ
        · rw [if_pos c4] at hJ
          refine aw_iconst (n := 38) (v := 0) d_LineReader_takeJoin_37 rfl (by decide) ?_
          exact aw_zret d_LineReader_takeJoin_38 rfl rfl (ax_retZ hJ rfl)
    · rw [if_pos c2] at hJ
      refine aw_aload_n (n := 18) d_LineReader_takeJoin_17 rfl rfl 0 rfl ?_
      obtain ⟨r2, σ2, hc2, hJ⟩ := ax_bindE hJ
      refine aw_callVi (n := 21) (c_LineReader_takeComma hc2) 9 rfl rfl Y_LineReader_takeComma km_LineReader_131 (by decide) (by decide) rfl rfl (Nat.le_of_ble_eq_true rfl) d_LineReader_takeJoin_18 rfl (fun r9 s9 hp => ?_)
      obtain ⟨rfl, rfl, hb1⟩ := hp
      exact aw_zret d_LineReader_takeJoin_21 rfl hb1 (ax_retZ hJ hb1)
  · rw [if_pos c1] at hJ
    refine aw_aload_n (n := 7) d_LineReader_takeJoin_6 rfl rfl 0 rfl ?_
    obtain ⟨r3, σ3, hc3, hJ⟩ := ax_bindE hJ
    refine aw_callVi (n := 10) (c_LineReader_takeClose hc3) 9 rfl rfl Y_LineReader_takeClose km_LineReader_128 (by decide) (by decide) rfl rfl (Nat.le_of_ble_eq_true rfl) d_LineReader_takeJoin_7 rfl (fun r9 s9 hp => ?_)
    obtain ⟨rfl, rfl, hb2⟩ := hp
    exact aw_zret d_LineReader_takeJoin_10 rfl hb2 (ax_retZ hJ hb2)
abbrev b_Names_findOrSee : ByteArray := prog_4_method_4_code
def y_Names_findOrSee : MethodName := ⟨"DotConsole$Names", "findOrSee", "(I)I"⟩
theorem d_Names_findOrSee_0 : decode b_Names_findOrSee 0 = .ok (.iconst 0, 1) := by decide +kernel
theorem d_Names_findOrSee_1 : decode b_Names_findOrSee 1 = .ok (.istore_n 2, 1) := by decide +kernel
theorem d_Names_findOrSee_2 : decode b_Names_findOrSee 2 = .ok (.iload_n 2, 1) := by decide +kernel
theorem d_Names_findOrSee_3 : decode b_Names_findOrSee 3 = .ok (.aload_n 0, 1) := by decide +kernel
theorem d_Names_findOrSee_4 : decode b_Names_findOrSee 4 = .ok (.getfield 19, 3) := by decide +kernel
theorem d_Names_findOrSee_7 : decode b_Names_findOrSee 7 = .ok (.if_icmp .ge 21, 3) := by decide +kernel
theorem d_Names_findOrSee_10 : decode b_Names_findOrSee 10 = .ok (.aload_n 0, 1) := by decide +kernel
theorem d_Names_findOrSee_11 : decode b_Names_findOrSee 11 = .ok (.getfield 9, 3) := by decide +kernel
theorem d_Names_findOrSee_14 : decode b_Names_findOrSee 14 = .ok (.iload_n 2, 1) := by decide +kernel
theorem d_Names_findOrSee_15 : decode b_Names_findOrSee 15 = .ok (.iaload, 1) := by decide +kernel
theorem d_Names_findOrSee_16 : decode b_Names_findOrSee 16 = .ok (.iload_n 1, 1) := by decide +kernel
theorem d_Names_findOrSee_17 : decode b_Names_findOrSee 17 = .ok (.if_icmp .ne 5, 3) := by decide +kernel
theorem d_Names_findOrSee_20 : decode b_Names_findOrSee 20 = .ok (.iload_n 2, 1) := by decide +kernel
theorem d_Names_findOrSee_21 : decode b_Names_findOrSee 21 = .ok (.ireturn, 1) := by decide +kernel
theorem d_Names_findOrSee_22 : decode b_Names_findOrSee 22 = .ok (.iinc 2 1, 3) := by decide +kernel
theorem d_Names_findOrSee_25 : decode b_Names_findOrSee 25 = .ok (.goto (-23), 3) := by decide +kernel
theorem d_Names_findOrSee_28 : decode b_Names_findOrSee 28 = .ok (.aload_n 0, 1) := by decide +kernel
theorem d_Names_findOrSee_29 : decode b_Names_findOrSee 29 = .ok (.getfield 19, 3) := by decide +kernel
theorem d_Names_findOrSee_32 : decode b_Names_findOrSee 32 = .ok (.bipush 12, 2) := by decide +kernel
theorem d_Names_findOrSee_34 : decode b_Names_findOrSee 34 = .ok (.if_icmp .ne 10, 3) := by decide +kernel
theorem d_Names_findOrSee_37 : decode b_Names_findOrSee 37 = .ok (.aload_n 0, 1) := by decide +kernel
theorem d_Names_findOrSee_38 : decode b_Names_findOrSee 38 = .ok (.iconst 1, 1) := by decide +kernel
theorem d_Names_findOrSee_39 : decode b_Names_findOrSee 39 = .ok (.putfield 22, 3) := by decide +kernel
theorem d_Names_findOrSee_42 : decode b_Names_findOrSee 42 = .ok (.iconst 0, 1) := by decide +kernel
theorem d_Names_findOrSee_43 : decode b_Names_findOrSee 43 = .ok (.ireturn, 1) := by decide +kernel
theorem d_Names_findOrSee_44 : decode b_Names_findOrSee 44 = .ok (.aload_n 0, 1) := by decide +kernel
theorem d_Names_findOrSee_45 : decode b_Names_findOrSee 45 = .ok (.getfield 9, 3) := by decide +kernel
theorem d_Names_findOrSee_48 : decode b_Names_findOrSee 48 = .ok (.aload_n 0, 1) := by decide +kernel
theorem d_Names_findOrSee_49 : decode b_Names_findOrSee 49 = .ok (.getfield 19, 3) := by decide +kernel
theorem d_Names_findOrSee_52 : decode b_Names_findOrSee 52 = .ok (.iload_n 1, 1) := by decide +kernel
theorem d_Names_findOrSee_53 : decode b_Names_findOrSee 53 = .ok (.iastore, 1) := by decide +kernel
theorem d_Names_findOrSee_54 : decode b_Names_findOrSee 54 = .ok (.aload_n 0, 1) := by decide +kernel
theorem d_Names_findOrSee_55 : decode b_Names_findOrSee 55 = .ok (.dup, 1) := by decide +kernel
theorem d_Names_findOrSee_56 : decode b_Names_findOrSee 56 = .ok (.getfield 19, 3) := by decide +kernel
theorem d_Names_findOrSee_59 : decode b_Names_findOrSee 59 = .ok (.iconst 1, 1) := by decide +kernel
theorem d_Names_findOrSee_60 : decode b_Names_findOrSee 60 = .ok (.iadd, 1) := by decide +kernel
theorem d_Names_findOrSee_61 : decode b_Names_findOrSee 61 = .ok (.putfield 19, 3) := by decide +kernel
theorem d_Names_findOrSee_64 : decode b_Names_findOrSee 64 = .ok (.aload_n 0, 1) := by decide +kernel
theorem d_Names_findOrSee_65 : decode b_Names_findOrSee 65 = .ok (.getfield 19, 3) := by decide +kernel
theorem d_Names_findOrSee_68 : decode b_Names_findOrSee 68 = .ok (.iconst 1, 1) := by decide +kernel
theorem d_Names_findOrSee_69 : decode b_Names_findOrSee 69 = .ok (.isub, 1) := by decide +kernel
theorem d_Names_findOrSee_70 : decode b_Names_findOrSee 70 = .ok (.ireturn, 1) := by decide +kernel
def μ_Names_findOrSee : ax_M := (b_Names_findOrSee, 3, "DotConsole$Names", (some .int), 0, 0, 0, 0)
theorem Y_Names_findOrSee : ax_YV μ_Names_findOrSee y_Names_findOrSee 1 := ⟨⟨ax_mem (by decide +kernel) rfl, ax_mem (by decide +kernel) rfl, by decide, by decide, by decide +kernel⟩, ax_mem (by decide +kernel) rfl, ax_mem (by decide +kernel) rfl⟩
theorem kf_Names_9 : Cond.fieldLink "DotConsole$Names" 9 "DotConsole$Names" "keys" "[I" ∈ ax_T := ax_mem (by decide +kernel) rfl
def J_Names_findOrSee_2 (N : Nat) : Nat → Int32 → Int32 → St → Option (Int32 × St)
  | 0, _, _, _ => none
  | n + 1, l1, l2, σ => (if (σ.1 5) ≤ l2 then
  (if (σ.1 5) = 12 then
  ax_let (sF σ 6 1) (fun σ3 =>
  some (0, σ3))
  else (if (inB (σ.1 5) 12) = true then ax_let (sA σ 5 (σ.1 5).toNatClampNeg l1) (fun σ1 =>
  ax_let (sF σ1 5 ((σ1.1 5) + 1)) (fun σ2 =>
  some (((σ2.1 5) - 1), σ2))) else none))
  else (if (inB l2 12) = true then (if (σ.2 5 l2.toNatClampNeg) = l1 then
  some (l2, σ)
  else ax_let ((l2 + 1) : Int32) (fun v1 =>
  J_Names_findOrSee_2 N n l1 v1 σ)) else none))
def J_Names_findOrSee (N : Nat) (a1 : Int32) (σ : St) : Option (Int32 × St) :=
  J_Names_findOrSee_2 N N a1 0 σ
set_option maxHeartbeats 1000000 in
theorem t_Names_findOrSee_2 {N : Nat} {g : ax_G} {r9 : Int32} {s9 : St} (x : ax_X) (A : Nat → Prop) : ∀ (n : Nat) (l1 : Int32) (l2 : Int32) (σ : St), J_Names_findOrSee_2 N n l1 l2 σ = some (r9, s9) → AW x μ_Names_findOrSee g A (wC g) (0, 0) (ax_QI x μ_Names_findOrSee g A (wC g) (ax_eqI r9 s9)) 2 [(0, .ref (g.2.1 7)), (1, .int l1), (2, .int l2)] [] σ := by
  intro n
  induction n with
  | zero => intro l1 l2 σ hJ; rw [J_Names_findOrSee_2] at hJ; cases hJ
  | succ n ih =>
    intro l1 l2 σ hJ
    rw [J_Names_findOrSee_2] at hJ
    refine aw_iload_n (n := 3) d_Names_findOrSee_2 rfl rfl 2 rfl ?_
    refine aw_aload_n (n := 4) d_Names_findOrSee_3 rfl rfl 0 rfl ?_
    refine gf_Names_seen (n := 7) d_Names_findOrSee_4 rfl kf_Names_19 ?_
    refine aw_icmp_ge (n := 10) (t := 28) d_Names_findOrSee_7 rfl (by decide) (fun c1 => ?_) (fun c1 => ?_)
    · rw [if_pos c1] at hJ
      refine aw_aload_n (n := 29) d_Names_findOrSee_28 rfl rfl 0 rfl ?_
      refine gf_Names_seen (n := 32) d_Names_findOrSee_29 rfl kf_Names_19 ?_
      refine aw_bipush (n := 34) (v := 12) d_Names_findOrSee_32 rfl (by decide) ?_
      refine aw_icmp_ne (n := 37) (t := 44) d_Names_findOrSee_34 rfl (by decide) (fun c2 => ?_) (fun c2 => ?_)
      · rw [if_neg c2] at hJ
        refine aw_aload_n (n := 45) d_Names_findOrSee_44 rfl rfl 0 rfl ?_
        refine gf_Names_keys (n := 48) d_Names_findOrSee_45 rfl kf_Names_9 ?_
        refine aw_aload_n (n := 49) d_Names_findOrSee_48 rfl rfl 0 rfl ?_
        refine gf_Names_seen (n := 52) d_Names_findOrSee_49 rfl kf_Names_19 ?_
        refine aw_iload_n (n := 53) d_Names_findOrSee_52 rfl rfl 1 rfl ?_
        obtain ⟨h1, hJ⟩ := ax_need hJ
        refine as_8 (n := 54) d_Names_findOrSee_53 rfl h1 ?_
        obtain ⟨σ1, eσ1, hJ⟩ := ax_letE hJ
        refine aw_let eσ1 ?_
        refine aw_aload_n (n := 55) d_Names_findOrSee_54 rfl rfl 0 rfl ?_
        refine aw_dup (n := 56) d_Names_findOrSee_55 rfl rfl ?_
        refine gf_Names_seen (n := 59) d_Names_findOrSee_56 rfl kf_Names_19 ?_
        refine aw_iconst (n := 60) (v := 1) d_Names_findOrSee_59 rfl (by decide) ?_
        refine aw_iadd (n := 61) d_Names_findOrSee_60 rfl ?_
        refine pf_Names_seen (n := 64) d_Names_findOrSee_61 rfl kf_Names_19 ?_
        obtain ⟨σ2, eσ2, hJ⟩ := ax_letE hJ
        refine aw_let eσ2 ?_
        refine aw_aload_n (n := 65) d_Names_findOrSee_64 rfl rfl 0 rfl ?_
        refine gf_Names_seen (n := 68) d_Names_findOrSee_65 rfl kf_Names_19 ?_
        refine aw_iconst (n := 69) (v := 1) d_Names_findOrSee_68 rfl (by decide) ?_
        refine aw_isub (n := 70) d_Names_findOrSee_69 rfl ?_
        exact aw_iret d_Names_findOrSee_70 rfl (ax_ret hJ)
      · rw [if_pos c2] at hJ
        refine aw_aload_n (n := 38) d_Names_findOrSee_37 rfl rfl 0 rfl ?_
        refine aw_iconst (n := 39) (v := 1) d_Names_findOrSee_38 rfl (by decide) ?_
        refine pf_Names_tooMany (n := 42) d_Names_findOrSee_39 rfl kf_Names_22 rfl rfl ?_
        obtain ⟨σ3, eσ3, hJ⟩ := ax_letE hJ
        refine aw_let eσ3 ?_
        refine aw_iconst (n := 43) (v := 0) d_Names_findOrSee_42 rfl (by decide) ?_
        exact aw_iret d_Names_findOrSee_43 rfl (ax_ret hJ)
    · rw [if_neg c1] at hJ
      refine aw_aload_n (n := 11) d_Names_findOrSee_10 rfl rfl 0 rfl ?_
      refine gf_Names_keys (n := 14) d_Names_findOrSee_11 rfl kf_Names_9 ?_
      refine aw_iload_n (n := 15) d_Names_findOrSee_14 rfl rfl 2 rfl ?_
      obtain ⟨h2, hJ⟩ := ax_need hJ
      refine al_8 (n := 16) d_Names_findOrSee_15 rfl h2 ?_
      refine aw_iload_n (n := 17) d_Names_findOrSee_16 rfl rfl 1 rfl ?_
      refine aw_icmp_ne (n := 20) (t := 22) d_Names_findOrSee_17 rfl (by decide) (fun c3 => ?_) (fun c3 => ?_)
      · rw [if_neg c3] at hJ
        obtain ⟨v1, ev1, hJ⟩ := ax_letE hJ
        refine aw_iinc (n := 25) (j := 2) (v := v1) d_Names_findOrSee_22 rfl rfl (ev1) (by decide) rfl ?_
        refine aw_goto (t := 2) d_Names_findOrSee_25 (by decide) ?_
        refine aw_sub [1, 2, 0] rfl ?_
        exact ih _ _ _ hJ
      · rw [if_pos c3] at hJ
        refine aw_iload_n (n := 21) d_Names_findOrSee_20 rfl rfl 2 rfl ?_
        exact aw_iret d_Names_findOrSee_21 rfl (ax_ret hJ)
set_option maxHeartbeats 1000000 in
theorem c_Names_findOrSee {N : Nat} {g : ax_G} {a1 : Int32} {σ : St} {r9 : Int32} {s9 : St} (hJ : J_Names_findOrSee N a1 σ = some (r9, s9)) : ax_CI μ_Names_findOrSee g y_Names_findOrSee (wC g) [.ref (g.2.1 7), .int a1] σ (ax_eqI r9 s9) := by
  refine ax_CI.of (plainFor_of_name rfl) rfl (Nat.le_of_ble_eq_true rfl) (fun x A _ => ?_)
  show AW x μ_Names_findOrSee g A (wC g) (0, 0) (ax_QI x μ_Names_findOrSee g A (wC g) (ax_eqI r9 s9)) 0 [(0, .ref (g.2.1 7)), (1, .int a1)] [] σ
  rw [J_Names_findOrSee] at hJ
  refine aw_iconst (n := 1) (v := 0) d_Names_findOrSee_0 rfl (by decide) ?_
  refine aw_istore_n (n := 2) d_Names_findOrSee_1 rfl rfl (by decide) rfl ?_
  refine aw_sub [1, 2, 0] rfl ?_
  exact t_Names_findOrSee_2 x A N _ _ _ hJ
abbrev b_Con_isBuiltIn : ByteArray := prog_1_method_15_code
def y_Con_isBuiltIn : MethodName := ⟨"DotConsole", "isBuiltIn", "(I)Z"⟩
theorem d_Con_isBuiltIn_0 : decode b_Con_isBuiltIn 0 = .ok (.iload_n 0, 1) := by decide +kernel
theorem d_Con_isBuiltIn_1 : decode b_Con_isBuiltIn 1 = .ok (.bipush 13, 2) := by decide +kernel
theorem d_Con_isBuiltIn_3 : decode b_Con_isBuiltIn 3 = .ok (.if_icmp .lt 13, 3) := by decide +kernel
theorem d_Con_isBuiltIn_6 : decode b_Con_isBuiltIn 6 = .ok (.iload_n 0, 1) := by decide +kernel
theorem d_Con_isBuiltIn_7 : decode b_Con_isBuiltIn 7 = .ok (.bipush 20, 2) := by decide +kernel
theorem d_Con_isBuiltIn_9 : decode b_Con_isBuiltIn 9 = .ok (.if_icmp .gt 7, 3) := by decide +kernel
theorem d_Con_isBuiltIn_12 : decode b_Con_isBuiltIn 12 = .ok (.iconst 1, 1) := by decide +kernel
theorem d_Con_isBuiltIn_13 : decode b_Con_isBuiltIn 13 = .ok (.goto 4, 3) := by decide +kernel
theorem d_Con_isBuiltIn_16 : decode b_Con_isBuiltIn 16 = .ok (.iconst 0, 1) := by decide +kernel
theorem d_Con_isBuiltIn_17 : decode b_Con_isBuiltIn 17 = .ok (.ireturn, 1) := by decide +kernel
def μ_Con_isBuiltIn : ax_M := (b_Con_isBuiltIn, 1, "DotConsole", (some .boolean), 0, 0, 0, 0)
theorem Y_Con_isBuiltIn : ax_YS μ_Con_isBuiltIn y_Con_isBuiltIn 1 := ⟨⟨ax_mem (by decide +kernel) rfl, ax_mem (by decide +kernel) rfl, by decide, by decide, by decide +kernel⟩, ax_mem (by decide +kernel) rfl⟩
def J_Con_isBuiltIn (N : Nat) (a0 : Int32) (σ : St) : Option (Int32 × St) :=
  (if a0 < 13 then
  some (0, σ)
  else (if 20 < a0 then
  some (0, σ)
  else some (1, σ)))
set_option maxHeartbeats 1000000 in
theorem c_Con_isBuiltIn {N : Nat} {g : ax_G} {a0 : Int32} {σ : St} {r9 : Int32} {s9 : St} (hJ : J_Con_isBuiltIn N a0 σ = some (r9, s9)) : ax_CI μ_Con_isBuiltIn g y_Con_isBuiltIn (wC g) [.int a0] σ (ax_eqZ r9 s9) := by
  refine ax_CI.of (plainFor_of_name rfl) rfl (Nat.le_of_ble_eq_true rfl) (fun x A _ => ?_)
  show AW x μ_Con_isBuiltIn g A (wC g) (0, 0) (ax_QI x μ_Con_isBuiltIn g A (wC g) (ax_eqZ r9 s9)) 0 [(0, .int a0)] [] σ
  rw [J_Con_isBuiltIn] at hJ
  refine aw_iload_n (n := 1) d_Con_isBuiltIn_0 rfl rfl 0 rfl ?_
  refine aw_bipush (n := 3) (v := 13) d_Con_isBuiltIn_1 rfl (by decide) ?_
  refine aw_icmp_lt (n := 6) (t := 16) d_Con_isBuiltIn_3 rfl (by decide) (fun c1 => ?_) (fun c1 => ?_)
  · rw [if_pos c1] at hJ
    refine aw_iconst (n := 17) (v := 0) d_Con_isBuiltIn_16 rfl (by decide) ?_
    exact aw_zret d_Con_isBuiltIn_17 rfl rfl (ax_retZ hJ rfl)
  · rw [if_neg c1] at hJ
    refine aw_iload_n (n := 7) d_Con_isBuiltIn_6 rfl rfl 0 rfl ?_
    refine aw_bipush (n := 9) (v := 20) d_Con_isBuiltIn_7 rfl (by decide) ?_
    refine aw_icmp_gt (n := 12) (t := 16) d_Con_isBuiltIn_9 rfl (by decide) (fun c2 => ?_) (fun c2 => ?_)
    · rw [if_pos c2] at hJ
      refine aw_iconst (n := 17) (v := 0) d_Con_isBuiltIn_16 rfl (by decide) ?_
      exact aw_zret d_Con_isBuiltIn_17 rfl rfl (ax_retZ hJ rfl)
    · rw [if_neg c2] at hJ
      refine aw_iconst (n := 13) (v := 1) d_Con_isBuiltIn_12 rfl (by decide) ?_
      refine aw_goto (t := 17) d_Con_isBuiltIn_13 (by decide) ?_
      exact aw_zret d_Con_isBuiltIn_17 rfl rfl (ax_retZ hJ rfl)
abbrev b_LineReader_takeBuiltIn : ByteArray := prog_2_method_11_code
def y_LineReader_takeBuiltIn : MethodName := ⟨"DotConsole$LineReader", "takeBuiltIn", "(I)Z"⟩
theorem d_LineReader_takeBuiltIn_0 : decode b_LineReader_takeBuiltIn 0 = .ok (.aload_n 0, 1) := by decide +kernel
theorem d_LineReader_takeBuiltIn_1 : decode b_LineReader_takeBuiltIn 1 = .ok (.dup, 1) := by decide +kernel
theorem d_LineReader_takeBuiltIn_2 : decode b_LineReader_takeBuiltIn 2 = .ok (.getfield 50, 3) := by decide +kernel
theorem d_LineReader_takeBuiltIn_5 : decode b_LineReader_takeBuiltIn 5 = .ok (.iconst 1, 1) := by decide +kernel
theorem d_LineReader_takeBuiltIn_6 : decode b_LineReader_takeBuiltIn 6 = .ok (.iadd, 1) := by decide +kernel
theorem d_LineReader_takeBuiltIn_7 : decode b_LineReader_takeBuiltIn 7 = .ok (.putfield 50, 3) := by decide +kernel
theorem d_LineReader_takeBuiltIn_10 : decode b_LineReader_takeBuiltIn 10 = .ok (.aload_n 0, 1) := by decide +kernel
theorem d_LineReader_takeBuiltIn_11 : decode b_LineReader_takeBuiltIn 11 = .ok (.getfield 30, 3) := by decide +kernel
theorem d_LineReader_takeBuiltIn_14 : decode b_LineReader_takeBuiltIn 14 = .ok (.getfield 56, 3) := by decide +kernel
theorem d_LineReader_takeBuiltIn_17 : decode b_LineReader_takeBuiltIn 17 = .ok (.aload_n 0, 1) := by decide +kernel
theorem d_LineReader_takeBuiltIn_18 : decode b_LineReader_takeBuiltIn 18 = .ok (.getfield 50, 3) := by decide +kernel
theorem d_LineReader_takeBuiltIn_21 : decode b_LineReader_takeBuiltIn 21 = .ok (.iaload, 1) := by decide +kernel
theorem d_LineReader_takeBuiltIn_22 : decode b_LineReader_takeBuiltIn 22 = .ok (.bipush 40, 2) := by decide +kernel
theorem d_LineReader_takeBuiltIn_24 : decode b_LineReader_takeBuiltIn 24 = .ok (.if_icmp .eq 5, 3) := by decide +kernel
theorem d_LineReader_takeBuiltIn_27 : decode b_LineReader_takeBuiltIn 27 = .ok (.iconst 0, 1) := by decide +kernel
theorem d_LineReader_takeBuiltIn_28 : decode b_LineReader_takeBuiltIn 28 = .ok (.ireturn, 1) := by decide +kernel
theorem d_LineReader_takeBuiltIn_29 : decode b_LineReader_takeBuiltIn 29 = .ok (.aload_n 0, 1) := by decide +kernel
theorem d_LineReader_takeBuiltIn_30 : decode b_LineReader_takeBuiltIn 30 = .ok (.iload_n 1, 1) := by decide +kernel
theorem d_LineReader_takeBuiltIn_31 : decode b_LineReader_takeBuiltIn 31 = .ok (.iconst 0, 1) := by decide +kernel
theorem d_LineReader_takeBuiltIn_32 : decode b_LineReader_takeBuiltIn 32 = .ok (.getstatic 68, 3) := by decide +kernel
theorem d_LineReader_takeBuiltIn_35 : decode b_LineReader_takeBuiltIn 35 = .ok (.iload_n 1, 1) := by decide +kernel
theorem d_LineReader_takeBuiltIn_36 : decode b_LineReader_takeBuiltIn 36 = .ok (.iconst 4, 1) := by decide +kernel
theorem d_LineReader_takeBuiltIn_37 : decode b_LineReader_takeBuiltIn 37 = .ok (.isub, 1) := by decide +kernel
theorem d_LineReader_takeBuiltIn_38 : decode b_LineReader_takeBuiltIn 38 = .ok (.iaload, 1) := by decide +kernel
theorem d_LineReader_takeBuiltIn_39 : decode b_LineReader_takeBuiltIn 39 = .ok (.iconst 1, 1) := by decide +kernel
theorem d_LineReader_takeBuiltIn_40 : decode b_LineReader_takeBuiltIn 40 = .ok (.isub, 1) := by decide +kernel
theorem d_LineReader_takeBuiltIn_41 : decode b_LineReader_takeBuiltIn 41 = .ok (.invokevirtual 119, 3) := by decide +kernel
theorem d_LineReader_takeBuiltIn_44 : decode b_LineReader_takeBuiltIn 44 = .ok (.iconst 1, 1) := by decide +kernel
theorem d_LineReader_takeBuiltIn_45 : decode b_LineReader_takeBuiltIn 45 = .ok (.ireturn, 1) := by decide +kernel
def μ_LineReader_takeBuiltIn : ax_M := (b_LineReader_takeBuiltIn, 2, "DotConsole$LineReader", (some .boolean), 1, 23, 0, 0)
theorem Y_LineReader_takeBuiltIn : ax_YV μ_LineReader_takeBuiltIn y_LineReader_takeBuiltIn 1 := ⟨⟨ax_mem (by decide +kernel) rfl, ax_mem (by decide +kernel) rfl, by decide, by decide, by decide +kernel⟩, ax_mem (by decide +kernel) rfl, ax_mem (by decide +kernel) rfl⟩
theorem kf_LineReader_30 : Cond.fieldLink "DotConsole$LineReader" 30 "DotConsole$LineReader" "tokens" "LDotConsole$Tokens;" ∈ ax_T := ax_mem (by decide +kernel) rfl
theorem kf_LineReader_56 : Cond.fieldLink "DotConsole$LineReader" 56 "DotConsole$Tokens" "kinds" "[I" ∈ ax_T := ax_mem (by decide +kernel) rfl
def J_LineReader_takeBuiltIn (N : Nat) (a1 : Int32) (σ : St) : Option (Int32 × St) :=
  ax_let (sF σ 7 ((σ.1 7) + 1)) (fun σ1 =>
  (if (inB (σ1.1 7) 49) = true then (if (σ1.2 2 (σ1.1 7).toNatClampNeg) = 40 then
  (if (inB (a1 - 4) 17) = true then ax_bindV (J_LineReader_hold N a1 0 ((tPARTS (a1 - 4).toNatClampNeg) - 1) σ1) (fun σ2 =>
  some (1, σ2)) else none)
  else some (0, σ1)) else none))
set_option maxHeartbeats 1000000 in
theorem c_LineReader_takeBuiltIn {N : Nat} {g : ax_G} {a1 : Int32} {σ : St} {r9 : Int32} {s9 : St} (hJ : J_LineReader_takeBuiltIn N a1 σ = some (r9, s9)) : ax_CI μ_LineReader_takeBuiltIn g y_LineReader_takeBuiltIn (wC g) [.ref (g.2.1 9), .int a1] σ (ax_eqZ r9 s9) := by
  refine ax_CI.of (plainFor_of_name rfl) rfl (Nat.le_of_ble_eq_true rfl) (fun x A _ => ?_)
  show AW x μ_LineReader_takeBuiltIn g A (wC g) (0, 0) (ax_QI x μ_LineReader_takeBuiltIn g A (wC g) (ax_eqZ r9 s9)) 0 [(0, .ref (g.2.1 9)), (1, .int a1)] [] σ
  rw [J_LineReader_takeBuiltIn] at hJ
  refine aw_aload_n (n := 1) d_LineReader_takeBuiltIn_0 rfl rfl 0 rfl ?_
  refine aw_dup (n := 2) d_LineReader_takeBuiltIn_1 rfl rfl ?_
  refine gf_LineReader_at (n := 5) d_LineReader_takeBuiltIn_2 rfl kf_LineReader_50 ?_
  refine aw_iconst (n := 6) (v := 1) d_LineReader_takeBuiltIn_5 rfl (by decide) ?_
  refine aw_iadd (n := 7) d_LineReader_takeBuiltIn_6 rfl ?_
  refine pf_LineReader_at (n := 10) d_LineReader_takeBuiltIn_7 rfl kf_LineReader_50 ?_
  obtain ⟨σ1, eσ1, hJ⟩ := ax_letE hJ
  refine aw_let eσ1 ?_
  refine aw_aload_n (n := 11) d_LineReader_takeBuiltIn_10 rfl rfl 0 rfl ?_
  refine gf_LineReader_tokens (n := 14) d_LineReader_takeBuiltIn_11 rfl kf_LineReader_30 ?_
  refine gf_Tokens_kinds (n := 17) d_LineReader_takeBuiltIn_14 rfl kf_LineReader_56 ?_
  refine aw_aload_n (n := 18) d_LineReader_takeBuiltIn_17 rfl rfl 0 rfl ?_
  refine gf_LineReader_at (n := 21) d_LineReader_takeBuiltIn_18 rfl kf_LineReader_50 ?_
  obtain ⟨h1, hJ⟩ := ax_need hJ
  refine al_4 (n := 22) d_LineReader_takeBuiltIn_21 rfl h1 ?_
  refine aw_bipush (n := 24) (v := 40) d_LineReader_takeBuiltIn_22 rfl (by decide) ?_
  refine aw_icmp_eq (n := 27) (t := 29) d_LineReader_takeBuiltIn_24 rfl (by decide) (fun c1 => ?_) (fun c1 => ?_)
  · rw [if_pos c1] at hJ
    refine aw_aload_n (n := 30) d_LineReader_takeBuiltIn_29 rfl rfl 0 rfl ?_
    refine aw_iload_n (n := 31) d_LineReader_takeBuiltIn_30 rfl rfl 1 rfl ?_
    refine aw_iconst (n := 32) (v := 0) d_LineReader_takeBuiltIn_31 rfl (by decide) ?_
    refine gs_PARTSN (n := 35) d_LineReader_takeBuiltIn_32 rfl kf_LineReader_68 ?_
    refine aw_iload_n (n := 36) d_LineReader_takeBuiltIn_35 rfl rfl 1 rfl ?_
    refine aw_iconst (n := 37) (v := 4) d_LineReader_takeBuiltIn_36 rfl (by decide) ?_
    refine aw_isub (n := 38) d_LineReader_takeBuiltIn_37 rfl ?_
    obtain ⟨h2, hJ⟩ := ax_need hJ
    refine al_PARTS (n := 39) d_LineReader_takeBuiltIn_38 rfl h2 ?_
    refine aw_iconst (n := 40) (v := 1) d_LineReader_takeBuiltIn_39 rfl (by decide) ?_
    refine aw_isub (n := 41) d_LineReader_takeBuiltIn_40 rfl ?_
    obtain ⟨σ2, hc1, hJ⟩ := ax_bindVE hJ
    refine aw_callVv (n := 44) (c_LineReader_hold hc1) 9 rfl rfl Y_LineReader_hold km_LineReader_119 (by decide) (by decide) rfl rfl (Nat.le_of_ble_eq_true rfl) d_LineReader_takeBuiltIn_41 rfl (fun s9 hp => ?_)
    subst hp
    refine aw_iconst (n := 45) (v := 1) d_LineReader_takeBuiltIn_44 rfl (by decide) ?_
    exact aw_zret d_LineReader_takeBuiltIn_45 rfl rfl (ax_retZ hJ rfl)
  · rw [if_neg c1] at hJ
    refine aw_iconst (n := 28) (v := 0) d_LineReader_takeBuiltIn_27 rfl (by decide) ?_
    exact aw_zret d_LineReader_takeBuiltIn_28 rfl rfl (ax_retZ hJ rfl)
