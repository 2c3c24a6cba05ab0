/-! WALKED: Tokens_withLetter, Tokens_cutWord, Tokens_cutToken, Tokens_cut, Names_forgetSeen, LineReader_clear, Con_rankOf, LineReader_emit. Printed by wip/whole/build.py. -/
abbrev b_Tokens_withLetter : ByteArray := prog_8_method_13_code
def y_Tokens_withLetter : MethodName := ⟨"DotConsole$Tokens", "withLetter", "(IC)I"⟩
theorem d_Tokens_withLetter_0 : decode b_Tokens_withLetter 0 = .ok (.iload_n 0, 1) := by decide +kernel
theorem d_Tokens_withLetter_1 : decode b_Tokens_withLetter 1 = .ok (.iconst 5, 1) := by decide +kernel
theorem d_Tokens_withLetter_2 : decode b_Tokens_withLetter 2 = .ok (.ishl, 1) := by decide +kernel
theorem d_Tokens_withLetter_3 : decode b_Tokens_withLetter 3 = .ok (.iload_n 1, 1) := by decide +kernel
theorem d_Tokens_withLetter_4 : decode b_Tokens_withLetter 4 = .ok (.bipush 31, 2) := by decide +kernel
theorem d_Tokens_withLetter_6 : decode b_Tokens_withLetter 6 = .ok (.iand, 1) := by decide +kernel
theorem d_Tokens_withLetter_7 : decode b_Tokens_withLetter 7 = .ok (.ior, 1) := by decide +kernel
theorem d_Tokens_withLetter_8 : decode b_Tokens_withLetter 8 = .ok (.ireturn, 1) := by decide +kernel
def μ_Tokens_withLetter : ax_M := (b_Tokens_withLetter, 2, "DotConsole$Tokens", (some .int), 0, 0, 0, 0)
theorem Y_Tokens_withLetter : ax_YS μ_Tokens_withLetter y_Tokens_withLetter 2 := ⟨⟨ax_mem (by decide +kernel) rfl, ax_mem (by decide +kernel) rfl, by decide, by decide, by decide +kernel⟩, ax_mem (by decide +kernel) rfl⟩
def J_Tokens_withLetter (N : Nat) (a0 : Int32) (a1 : Int32) (σ : St) : Option (Int32 × St) :=
  some (((a0 <<< (5 &&& 31)) ||| (a1 &&& 31)), σ)
set_option maxHeartbeats 1000000 in
theorem c_Tokens_withLetter {N : Nat} {g : ax_G} {a0 : Int32} {a1 : Int32} {σ : St} {r9 : Int32} {s9 : St} (hJ : J_Tokens_withLetter N a0 a1 σ = some (r9, s9)) : ax_CI μ_Tokens_withLetter g y_Tokens_withLetter (wC g) [.int a0, .int a1] σ (ax_eqI r9 s9) := by
  refine ax_CI.of (plainFor_of_name rfl) rfl (Nat.le_of_ble_eq_true rfl) (fun x A _ => ?_)
  show AW x μ_Tokens_withLetter g A (wC g) (0, 0) (ax_QI x μ_Tokens_withLetter g A (wC g) (ax_eqI r9 s9)) 0 [(0, .int a0), (1, .int a1)] [] σ
  rw [J_Tokens_withLetter] at hJ
  refine aw_iload_n (n := 1) d_Tokens_withLetter_0 rfl rfl 0 rfl ?_
  refine aw_iconst (n := 2) (v := 5) d_Tokens_withLetter_1 rfl (by decide) ?_
  refine aw_ishl (n := 3) d_Tokens_withLetter_2 rfl ?_
  refine aw_iload_n (n := 4) d_Tokens_withLetter_3 rfl rfl 1 rfl ?_
  refine aw_bipush (n := 6) (v := 31) d_Tokens_withLetter_4 rfl (by decide) ?_
  refine aw_iand (n := 7) d_Tokens_withLetter_6 rfl ?_
  refine aw_ior (n := 8) d_Tokens_withLetter_7 rfl ?_
  exact aw_iret d_Tokens_withLetter_8 rfl (ax_ret hJ)
abbrev b_Tokens_cutWord : ByteArray := prog_8_method_6_code
def y_Tokens_cutWord : MethodName := ⟨"DotConsole$Tokens", "cutWord", "()I"⟩
theorem d_Tokens_cutWord_0 : decode b_Tokens_cutWord 0 = .ok (.aload_n 0, 1) := by decide +kernel
theorem d_Tokens_cutWord_1 : decode b_Tokens_cutWord 1 = .ok (.getfield 44, 3) := by decide +kernel
theorem d_Tokens_cutWord_4 : decode b_Tokens_cutWord 4 = .ok (.istore_n 1, 1) := by decide +kernel
theorem d_Tokens_cutWord_5 : decode b_Tokens_cutWord 5 = .ok (.aload_n 0, 1) := by decide +kernel
theorem d_Tokens_cutWord_6 : decode b_Tokens_cutWord 6 = .ok (.getfield 44, 3) := by decide +kernel
theorem d_Tokens_cutWord_9 : decode b_Tokens_cutWord 9 = .ok (.aload_n 0, 1) := by decide +kernel
theorem d_Tokens_cutWord_10 : decode b_Tokens_cutWord 10 = .ok (.getfield 40, 3) := by decide +kernel
theorem d_Tokens_cutWord_13 : decode b_Tokens_cutWord 13 = .ok (.if_icmp .ge 31, 3) := by decide +kernel
theorem d_Tokens_cutWord_16 : decode b_Tokens_cutWord 16 = .ok (.aload_n 0, 1) := by decide +kernel
theorem d_Tokens_cutWord_17 : decode b_Tokens_cutWord 17 = .ok (.getfield 15, 3) := by decide +kernel
theorem d_Tokens_cutWord_20 : decode b_Tokens_cutWord 20 = .ok (.aload_n 0, 1) := by decide +kernel
theorem d_Tokens_cutWord_21 : decode b_Tokens_cutWord 21 = .ok (.getfield 44, 3) := by decide +kernel
theorem d_Tokens_cutWord_24 : decode b_Tokens_cutWord 24 = .ok (.caload, 1) := by decide +kernel
theorem d_Tokens_cutWord_25 : decode b_Tokens_cutWord 25 = .ok (.invokestatic 54, 3) := by decide +kernel
theorem d_Tokens_cutWord_28 : decode b_Tokens_cutWord 28 = .ok (.ifCond .eq 16, 3) := by decide +kernel
theorem d_Tokens_cutWord_31 : decode b_Tokens_cutWord 31 = .ok (.aload_n 0, 1) := by decide +kernel
theorem d_Tokens_cutWord_32 : decode b_Tokens_cutWord 32 = .ok (.dup, 1) := by decide +kernel
theorem d_Tokens_cutWord_33 : decode b_Tokens_cutWord 33 = .ok (.getfield 44, 3) := by decide +kernel
theorem d_Tokens_cutWord_36 : decode b_Tokens_cutWord 36 = .ok (.iconst 1, 1) := by decide +kernel
theorem d_Tokens_cutWord_37 : decode b_Tokens_cutWord 37 = .ok (.iadd, 1) := by decide +kernel
theorem d_Tokens_cutWord_38 : decode b_Tokens_cutWord 38 = .ok (.putfield 44, 3) := by decide +kernel
theorem d_Tokens_cutWord_41 : decode b_Tokens_cutWord 41 = .ok (.goto (-36), 3) := by decide +kernel
theorem d_Tokens_cutWord_44 : decode b_Tokens_cutWord 44 = .ok (.aload_n 0, 1) := by decide +kernel
theorem d_Tokens_cutWord_45 : decode b_Tokens_cutWord 45 = .ok (.getfield 44, 3) := by decide +kernel
theorem d_Tokens_cutWord_48 : decode b_Tokens_cutWord 48 = .ok (.iload_n 1, 1) := by decide +kernel
theorem d_Tokens_cutWord_49 : decode b_Tokens_cutWord 49 = .ok (.isub, 1) := by decide +kernel
theorem d_Tokens_cutWord_50 : decode b_Tokens_cutWord 50 = .ok (.bipush 6, 2) := by decide +kernel
theorem d_Tokens_cutWord_52 : decode b_Tokens_cutWord 52 = .ok (.if_icmp .le 5, 3) := by decide +kernel
theorem d_Tokens_cutWord_55 : decode b_Tokens_cutWord 55 = .ok (.iconst 1, 1) := by decide +kernel
theorem d_Tokens_cutWord_56 : decode b_Tokens_cutWord 56 = .ok (.ireturn, 1) := by decide +kernel
theorem d_Tokens_cutWord_57 : decode b_Tokens_cutWord 57 = .ok (.iconst 0, 1) := by decide +kernel
theorem d_Tokens_cutWord_58 : decode b_Tokens_cutWord 58 = .ok (.istore_n 2, 1) := by decide +kernel
theorem d_Tokens_cutWord_59 : decode b_Tokens_cutWord 59 = .ok (.iload_n 1, 1) := by decide +kernel
theorem d_Tokens_cutWord_60 : decode b_Tokens_cutWord 60 = .ok (.istore_n 3, 1) := by decide +kernel
theorem d_Tokens_cutWord_61 : decode b_Tokens_cutWord 61 = .ok (.iload_n 3, 1) := by decide +kernel
theorem d_Tokens_cutWord_62 : decode b_Tokens_cutWord 62 = .ok (.iload_n 1, 1) := by decide +kernel
theorem d_Tokens_cutWord_63 : decode b_Tokens_cutWord 63 = .ok (.bipush 6, 2) := by decide +kernel
theorem d_Tokens_cutWord_65 : decode b_Tokens_cutWord 65 = .ok (.iadd, 1) := by decide +kernel
theorem d_Tokens_cutWord_66 : decode b_Tokens_cutWord 66 = .ok (.if_icmp .ge 33, 3) := by decide +kernel
theorem d_Tokens_cutWord_69 : decode b_Tokens_cutWord 69 = .ok (.iload_n 2, 1) := by decide +kernel
theorem d_Tokens_cutWord_70 : decode b_Tokens_cutWord 70 = .ok (.iload_n 3, 1) := by decide +kernel
theorem d_Tokens_cutWord_71 : decode b_Tokens_cutWord 71 = .ok (.aload_n 0, 1) := by decide +kernel
theorem d_Tokens_cutWord_72 : decode b_Tokens_cutWord 72 = .ok (.getfield 44, 3) := by decide +kernel
theorem d_Tokens_cutWord_75 : decode b_Tokens_cutWord 75 = .ok (.if_icmp .ge 12, 3) := by decide +kernel
theorem d_Tokens_cutWord_78 : decode b_Tokens_cutWord 78 = .ok (.aload_n 0, 1) := by decide +kernel
theorem d_Tokens_cutWord_79 : decode b_Tokens_cutWord 79 = .ok (.getfield 15, 3) := by decide +kernel
theorem d_Tokens_cutWord_82 : decode b_Tokens_cutWord 82 = .ok (.iload_n 3, 1) := by decide +kernel
theorem d_Tokens_cutWord_83 : decode b_Tokens_cutWord 83 = .ok (.caload, 1) := by decide +kernel
theorem d_Tokens_cutWord_84 : decode b_Tokens_cutWord 84 = .ok (.goto 5, 3) := by decide +kernel
theorem d_Tokens_cutWord_87 : decode b_Tokens_cutWord 87 = .ok (.bipush 32, 2) := by decide +kernel
theorem d_Tokens_cutWord_89 : decode b_Tokens_cutWord 89 = .ok (.invokestatic 36, 3) := by decide +kernel
theorem d_Tokens_cutWord_92 : decode b_Tokens_cutWord 92 = .ok (.istore_n 2, 1) := by decide +kernel
theorem d_Tokens_cutWord_93 : decode b_Tokens_cutWord 93 = .ok (.iinc 3 1, 3) := by decide +kernel
theorem d_Tokens_cutWord_96 : decode b_Tokens_cutWord 96 = .ok (.goto (-35), 3) := by decide +kernel
theorem d_Tokens_cutWord_99 : decode b_Tokens_cutWord 99 = .ok (.aload_n 0, 1) := by decide +kernel
theorem d_Tokens_cutWord_100 : decode b_Tokens_cutWord 100 = .ok (.getfield 25, 3) := by decide +kernel
theorem d_Tokens_cutWord_103 : decode b_Tokens_cutWord 103 = .ok (.aload_n 0, 1) := by decide +kernel
theorem d_Tokens_cutWord_104 : decode b_Tokens_cutWord 104 = .ok (.getfield 47, 3) := by decide +kernel
theorem d_Tokens_cutWord_107 : decode b_Tokens_cutWord 107 = .ok (.iload_n 2, 1) := by decide +kernel
theorem d_Tokens_cutWord_108 : decode b_Tokens_cutWord 108 = .ok (.iastore, 1) := by decide +kernel
theorem d_Tokens_cutWord_109 : decode b_Tokens_cutWord 109 = .ok (.aload_n 0, 1) := by decide +kernel
theorem d_Tokens_cutWord_110 : decode b_Tokens_cutWord 110 = .ok (.iload_n 2, 1) := by decide +kernel
theorem d_Tokens_cutWord_111 : decode b_Tokens_cutWord 111 = .ok (.invokevirtual 73, 3) := by decide +kernel
theorem d_Tokens_cutWord_114 : decode b_Tokens_cutWord 114 = .ok (.ireturn, 1) := by decide +kernel
def μ_Tokens_cutWord : ax_M := (b_Tokens_cutWord, 4, "DotConsole$Tokens", (some .int), 1, 22, 0, 0)
theorem Y_Tokens_cutWord : ax_YV μ_Tokens_cutWord y_Tokens_cutWord 0 := ⟨⟨ax_mem (by decide +kernel) rfl, ax_mem (by decide +kernel) rfl, by decide, by decide, by decide +kernel⟩, ax_mem (by decide +kernel) rfl, ax_mem (by decide +kernel) rfl⟩
theorem km_Tokens_73 : Cond.methodLink "DotConsole$Tokens" 73 ⟨"DotConsole$Tokens", "kindOfWord", "(I)I"⟩ ∈ ax_T := ax_mem (by decide +kernel) rfl
theorem km_Tokens_36 : Cond.methodLink "DotConsole$Tokens" 36 ⟨"DotConsole$Tokens", "withLetter", "(IC)I"⟩ ∈ ax_T := ax_mem (by decide +kernel) rfl
theorem km_Tokens_54 : Cond.methodLink "DotConsole$Tokens" 54 ⟨"DotConsole$Tokens", "isLetter", "(C)Z"⟩ ∈ ax_T := ax_mem (by decide +kernel) rfl
def J_Tokens_cutWord_61 (N : Nat) : Nat → Int32 → Int32 → Int32 → St → Option (Int32 × St)
  | 0, _, _, _, _ => none
  | n + 1, l1, l2, l3, σ => (if (l1 + 6) ≤ l3 then
  (if (inB (σ.1 2) 49) = true then ax_let (sA σ 4 (σ.1 2).toNatClampNeg l2) (fun σ3 =>
  ax_bind (J_Tokens_kindOfWord N l2 σ3) (fun r2 σ4 =>
  some (r2, σ4))) else none)
  else (if (σ.1 3) ≤ l3 then
  ax_bind (J_Tokens_withLetter N l2 32 σ) (fun r3 σ5 =>
  ax_let ((l3 + 1) : Int32) (fun v2 =>
  J_Tokens_cutWord_61 N n l1 r3 v2 σ5))
  else (if (inB l3 48) = true then ax_bind (J_Tokens_withLetter N l2 (σ.2 1 l3.toNatClampNeg) σ) (fun r4 σ6 =>
  ax_let ((l3 + 1) : Int32) (fun v3 =>
  J_Tokens_cutWord_61 N n l1 r4 v3 σ6)) else none)))
def J_Tokens_cutWord_44 (N : Nat) (l1 : Int32) (σ : St) : Option (Int32 × St) :=
  (if ((σ.1 3) - l1) ≤ 6 then
  J_Tokens_cutWord_61 N N l1 0 l1 σ
  else some (1, σ))
def J_Tokens_cutWord_5 (N : Nat) : Nat → Int32 → St → Option (Int32 × St)
  | 0, _, _ => none
  | n + 1, l1, σ => (if (σ.1 1) ≤ (σ.1 3) then
  J_Tokens_cutWord_44 N l1 σ
  else (if (inB (σ.1 3) 48) = true then ax_bind (J_Tokens_isLetter N (σ.2 1 (σ.1 3).toNatClampNeg) σ) (fun r1 σ1 =>
  (if r1 = 0 then
  J_Tokens_cutWord_44 N l1 σ1
  else ax_let (sF σ1 3 ((σ1.1 3) + 1)) (fun σ2 =>
  J_Tokens_cutWord_5 N n l1 σ2))) else none))
def J_Tokens_cutWord (N : Nat) (σ : St) : Option (Int32 × St) :=
  ax_let ((σ.1 3) : Int32) (fun v1 =>
  J_Tokens_cutWord_5 N N v1 σ)
set_option maxHeartbeats 1000000 in
theorem t_Tokens_cutWord_61 {N : Nat} {g : ax_G} {r9 : Int32} {s9 : St} (x : ax_X) (A : Nat → Prop) : ∀ (n : Nat) (l1 : Int32) (l2 : Int32) (l3 : Int32) (σ : St), J_Tokens_cutWord_61 N n l1 l2 l3 σ = some (r9, s9) → AW x μ_Tokens_cutWord g A (wC g) (0, 0) (ax_QI x μ_Tokens_cutWord g A (wC g) (ax_eqI r9 s9)) 61 [(0, .ref (g.2.1 1)), (1, .int l1), (2, .int l2), (3, .int l3)] [] σ := by
  intro n
  induction n with
  | zero => intro l1 l2 l3 σ hJ; rw [J_Tokens_cutWord_61] at hJ; cases hJ
  | succ n ih =>
    intro l1 l2 l3 σ hJ
    rw [J_Tokens_cutWord_61] at hJ
    refine aw_iload_n (n := 62) d_Tokens_cutWord_61 rfl rfl 3 rfl ?_
    refine aw_iload_n (n := 63) d_Tokens_cutWord_62 rfl rfl 1 rfl ?_
    refine aw_bipush (n := 65) (v := 6) d_Tokens_cutWord_63 rfl (by decide) ?_
    refine aw_iadd (n := 66) d_Tokens_cutWord_65 rfl ?_
    refine aw_icmp_ge (n := 69) (t := 99) d_Tokens_cutWord_66 rfl (by decide) (fun c4 => ?_) (fun c4 => ?_)
    · rw [if_pos c4] at hJ
      refine aw_aload_n (n := 100) d_Tokens_cutWord_99 rfl rfl 0 rfl ?_
      refine gf_Tokens_meanings (n := 103) d_Tokens_cutWord_100 rfl kf_Tokens_25 ?_
      refine aw_aload_n (n := 104) d_Tokens_cutWord_103 rfl rfl 0 rfl ?_
      refine gf_Tokens_found (n := 107) d_Tokens_cutWord_104 rfl kf_Tokens_47 ?_
      refine aw_iload_n (n := 108) d_Tokens_cutWord_107 rfl rfl 2 rfl ?_
      obtain ⟨h2, hJ⟩ := ax_need hJ
      refine as_6 (n := 109) d_Tokens_cutWord_108 rfl h2 ?_
      obtain ⟨σ3, eσ3, hJ⟩ := ax_letE hJ
      refine aw_let eσ3 ?_
      refine aw_aload_n (n := 110) d_Tokens_cutWord_109 rfl rfl 0 rfl ?_
      refine aw_iload_n (n := 111) d_Tokens_cutWord_110 rfl rfl 2 rfl ?_
      obtain ⟨r2, σ4, hc2, hJ⟩ := ax_bindE hJ
      refine aw_callVi (n := 114) (c_Tokens_kindOfWord hc2) 1 rfl rfl Y_Tokens_kindOfWord km_Tokens_73 (by decide) (by decide) rfl rfl (Nat.le_of_ble_eq_true rfl) d_Tokens_cutWord_111 rfl (fun r9 s9 hp => ?_)
      obtain ⟨rfl, rfl⟩ := hp
      exact aw_iret d_Tokens_cutWord_114 rfl (ax_ret hJ)
    · rw [if_neg c4] at hJ
      refine aw_iload_n (n := 70) d_Tokens_cutWord_69 rfl rfl 2 rfl ?_
      refine aw_iload_n (n := 71) d_Tokens_cutWord_70 rfl rfl 3 rfl ?_
      refine aw_aload_n (n := 72) d_Tokens_cutWord_71 rfl rfl 0 rfl ?_
      refine gf_Tokens_next (n := 75) d_Tokens_cutWord_72 rfl kf_Tokens_44 ?_
      refine aw_icmp_ge (n := 78) (t := 87) d_Tokens_cutWord_75 rfl (by decide) (fun c5 => ?_) (fun c5 => ?_)
      · rw [if_pos c5] at hJ
        refine aw_bipush (n := 89) (v := 32) d_Tokens_cutWord_87 rfl (by decide) ?_
        obtain ⟨r3, σ5, hc3, hJ⟩ := ax_bindE hJ
        refine aw_callSi (n := 92) (c_Tokens_withLetter hc3) Y_Tokens_withLetter km_Tokens_36 (by decide) (by decide) rfl rfl (Nat.le_of_ble_eq_true rfl) d_Tokens_cutWord_89 rfl (fun r9 s9 hp => ?_)
        obtain ⟨rfl, rfl⟩ := hp
        refine aw_istore_n (n := 93) d_Tokens_cutWord_92 rfl rfl (by decide) rfl ?_
        obtain ⟨v2, ev2, hJ⟩ := ax_letE hJ
        refine aw_iinc (n := 96) (j := 3) (v := v2) d_Tokens_cutWord_93 rfl rfl (ev2) (by decide) rfl ?_
        refine aw_goto (t := 61) d_Tokens_cutWord_96 (by decide) ?_
        refine aw_sub [2, 3, 1, 0] rfl ?_
        exact ih _ _ _ _ hJ
      · rw [if_neg c5] at hJ
        refine aw_aload_n (n := 79) d_Tokens_cutWord_78 rfl rfl 0 rfl ?_
        refine gf_Tokens_text (n := 82) d_Tokens_cutWord_79 rfl kf_Tokens_15 ?_
        refine aw_iload_n (n := 83) d_Tokens_cutWord_82 rfl rfl 3 rfl ?_
        obtain ⟨h3, hJ⟩ := ax_need hJ
        refine al_3 (n := 84) d_Tokens_cutWord_83 rfl h3 ?_
        refine aw_goto (t := 89) d_Tokens_cutWord_84 (by decide) ?_
        obtain ⟨r4, σ6, hc4, hJ⟩ := ax_bindE hJ
        refine aw_callSi (n := 92) (c_Tokens_withLetter hc4) Y_Tokens_withLetter km_Tokens_36 (by decide) (by decide) rfl rfl (Nat.le_of_ble_eq_true rfl) d_Tokens_cutWord_89 rfl (fun r9 s9 hp => ?_)
        obtain ⟨rfl, rfl⟩ := hp
        refine aw_istore_n (n := 93) d_Tokens_cutWord_92 rfl rfl (by decide) rfl ?_
        obtain ⟨v3, ev3, hJ⟩ := ax_letE hJ
        refine aw_iinc (n := 96) (j := 3) (v := v3) d_Tokens_cutWord_93 rfl rfl (ev3) (by decide) rfl ?_
        refine aw_goto (t := 61) d_Tokens_cutWord_96 (by decide) ?_
        refine aw_sub [2, 3, 1, 0] rfl ?_
        exact ih _ _ _ _ hJ
set_option maxHeartbeats 1000000 in
theorem t_Tokens_cutWord_44 {N : Nat} {g : ax_G} {r9 : Int32} {s9 : St} (x : ax_X) (A : Nat → Prop) : ∀ (l1 : Int32) (σ : St), J_Tokens_cutWord_44 N l1 σ = some (r9, s9) → AW x μ_Tokens_cutWord g A (wC g) (0, 0) (ax_QI x μ_Tokens_cutWord g A (wC g) (ax_eqI r9 s9)) 44 [(0, .ref (g.2.1 1)), (1, .int l1)] [] σ := by
  intro l1 σ hJ
  rw [J_Tokens_cutWord_44] at hJ
  refine aw_aload_n (n := 45) d_Tokens_cutWord_44 rfl rfl 0 rfl ?_
  refine gf_Tokens_next (n := 48) d_Tokens_cutWord_45 rfl kf_Tokens_44 ?_
  refine aw_iload_n (n := 49) d_Tokens_cutWord_48 rfl rfl 1 rfl ?_
  refine aw_isub (n := 50) d_Tokens_cutWord_49 rfl ?_
  refine aw_bipush (n := 52) (v := 6) d_Tokens_cutWord_50 rfl (by decide) ?_
  refine aw_icmp_le (n := 55) (t := 57) d_Tokens_cutWord_52 rfl (by decide) (fun c3 => ?_) (fun c3 => ?_)
  · rw [if_pos c3] at hJ
    refine aw_iconst (n := 58) (v := 0) d_Tokens_cutWord_57 rfl (by decide) ?_
    refine aw_istore_n (n := 59) d_Tokens_cutWord_58 rfl rfl (by decide) rfl ?_
    refine aw_iload_n (n := 60) d_Tokens_cutWord_59 rfl rfl 2 rfl ?_
    refine aw_istore_n (n := 61) d_Tokens_cutWord_60 rfl rfl (by decide) rfl ?_
    refine aw_sub [2, 3, 1, 0] rfl ?_
    exact t_Tokens_cutWord_61 x A N _ _ _ _ hJ
  · rw [if_neg c3] at hJ
    refine aw_iconst (n := 56) (v := 1) d_Tokens_cutWord_55 rfl (by decide) ?_
    exact aw_iret d_Tokens_cutWord_56 rfl (ax_ret hJ)
set_option maxHeartbeats 1000000 in
theorem t_Tokens_cutWord_5 {N : Nat} {g : ax_G} {r9 : Int32} {s9 : St} (x : ax_X) (A : Nat → Prop) : ∀ (n : Nat) (l1 : Int32) (σ : St), J_Tokens_cutWord_5 N n l1 σ = some (r9, s9) → AW x μ_Tokens_cutWord g A (wC g) (0, 0) (ax_QI x μ_Tokens_cutWord g A (wC g) (ax_eqI r9 s9)) 5 [(0, .ref (g.2.1 1)), (1, .int l1)] [] σ := by
  intro n
  induction n with
  | zero => intro l1 σ hJ; rw [J_Tokens_cutWord_5] at hJ; cases hJ
  | succ n ih =>
    intro l1 σ hJ
    rw [J_Tokens_cutWord_5] at hJ
    refine aw_aload_n (n := 6) d_Tokens_cutWord_5 rfl rfl 0 rfl ?_
    refine gf_Tokens_next (n := 9) d_Tokens_cutWord_6 rfl kf_Tokens_44 ?_
    refine aw_aload_n (n := 10) d_Tokens_cutWord_9 rfl rfl 0 rfl ?_
    refine gf_Tokens_length (n := 13) d_Tokens_cutWord_10 rfl kf_Tokens_40 ?_
    refine aw_icmp_ge (n := 16) (t := 44) d_Tokens_cutWord_13 rfl (by decide) (fun c1 => ?_) (fun c1 => ?_)
    · rw [if_pos c1] at hJ
      exact t_Tokens_cutWord_44 x A _ _ hJ
    · rw [if_neg c1] at hJ
      refine aw_aload_n (n := 17) d_Tokens_cutWord_16 rfl rfl 0 rfl ?_
      refine gf_Tokens_text (n := 20) d_Tokens_cutWord_17 rfl kf_Tokens_15 ?_
      refine aw_aload_n (n := 21) d_Tokens_cutWord_20 rfl rfl 0 rfl ?_
      refine gf_Tokens_next (n := 24) d_Tokens_cutWord_21 rfl kf_Tokens_44 ?_
      obtain ⟨h1, hJ⟩ := ax_need hJ
      refine al_3 (n := 25) d_Tokens_cutWord_24 rfl h1 ?_
      obtain ⟨r1, σ1, hc1, hJ⟩ := ax_bindE hJ
      refine aw_callSi (n := 28) (c_Tokens_isLetter hc1) Y_Tokens_isLetter km_Tokens_54 (by decide) (by decide) rfl rfl (Nat.le_of_ble_eq_true rfl) d_Tokens_cutWord_25 rfl (fun r9 s9 hp => ?_)
      obtain ⟨rfl, rfl, hb1⟩ := hp
      refine aw_if_eq (n := 31) (t := 44) d_Tokens_cutWord_28 rfl (by decide) (fun c2 => ?_) (fun c2 => ?_)
      · rw [if_pos c2] at hJ
        exact t_Tokens_cutWord_44 x A _ _ hJ
      · rw [if_neg c2] at hJ
        refine aw_aload_n (n := 32) d_Tokens_cutWord_31 rfl rfl 0 rfl ?_
        refine aw_dup (n := 33) d_Tokens_cutWord_32 rfl rfl ?_
        refine gf_Tokens_next (n := 36) d_Tokens_cutWord_33 rfl kf_Tokens_44 ?_
        refine aw_iconst (n := 37) (v := 1) d_Tokens_cutWord_36 rfl (by decide) ?_
        refine aw_iadd (n := 38) d_Tokens_cutWord_37 rfl ?_
        refine pf_Tokens_next (n := 41) d_Tokens_cutWord_38 rfl kf_Tokens_44 ?_
        obtain ⟨σ2, eσ2, hJ⟩ := ax_letE hJ
        refine aw_let eσ2 ?_
        refine aw_goto (t := 5) d_Tokens_cutWord_41 (by decide) ?_
        exact ih _ _ hJ
set_option maxHeartbeats 1000000 in
theorem c_Tokens_cutWord {N : Nat} {g : ax_G} {σ : St} {r9 : Int32} {s9 : St} (hJ : J_Tokens_cutWord N σ = some (r9, s9)) : ax_CI μ_Tokens_cutWord g y_Tokens_cutWord (wC g) [.ref (g.2.1 1)] σ (ax_eqI r9 s9) := by
  refine ax_CI.of (plainFor_of_name rfl) rfl (Nat.le_of_ble_eq_true rfl) (fun x A _ => ?_)
  show AW x μ_Tokens_cutWord g A (wC g) (0, 0) (ax_QI x μ_Tokens_cutWord g A (wC g) (ax_eqI r9 s9)) 0 [(0, .ref (g.2.1 1))] [] σ
  rw [J_Tokens_cutWord] at hJ
  refine aw_aload_n (n := 1) d_Tokens_cutWord_0 rfl rfl 0 rfl ?_
  refine gf_Tokens_next (n := 4) d_Tokens_cutWord_1 rfl kf_Tokens_44 ?_
  obtain ⟨v1, ev1, hJ⟩ := ax_letE hJ
  refine aw_top ev1 ?_
  refine aw_istore_n (n := 5) d_Tokens_cutWord_4 rfl rfl (by decide) rfl ?_
  refine aw_sub [1, 0] rfl ?_
  exact t_Tokens_cutWord_5 x A N _ _ hJ
abbrev b_Tokens_cutToken : ByteArray := prog_8_method_5_code
def y_Tokens_cutToken : MethodName := ⟨"DotConsole$Tokens", "cutToken", "()I"⟩
theorem d_Tokens_cutToken_0 : decode b_Tokens_cutToken 0 = .ok (.aload_n 0, 1) := by decide +kernel
theorem d_Tokens_cutToken_1 : decode b_Tokens_cutToken 1 = .ok (.getfield 44, 3) := by decide +kernel
theorem d_Tokens_cutToken_4 : decode b_Tokens_cutToken 4 = .ok (.aload_n 0, 1) := by decide +kernel
theorem d_Tokens_cutToken_5 : decode b_Tokens_cutToken 5 = .ok (.getfield 40, 3) := by decide +kernel
theorem d_Tokens_cutToken_8 : decode b_Tokens_cutToken 8 = .ok (.if_icmp .ne 5, 3) := by decide +kernel
theorem d_Tokens_cutToken_11 : decode b_Tokens_cutToken 11 = .ok (.iconst 0, 1) := by decide +kernel
theorem d_Tokens_cutToken_12 : decode b_Tokens_cutToken 12 = .ok (.ireturn, 1) := by decide +kernel
theorem d_Tokens_cutToken_13 : decode b_Tokens_cutToken 13 = .ok (.aload_n 0, 1) := by decide +kernel
theorem d_Tokens_cutToken_14 : decode b_Tokens_cutToken 14 = .ok (.getfield 15, 3) := by decide +kernel
theorem d_Tokens_cutToken_17 : decode b_Tokens_cutToken 17 = .ok (.aload_n 0, 1) := by decide +kernel
theorem d_Tokens_cutToken_18 : decode b_Tokens_cutToken 18 = .ok (.getfield 44, 3) := by decide +kernel
theorem d_Tokens_cutToken_21 : decode b_Tokens_cutToken 21 = .ok (.caload, 1) := by decide +kernel
theorem d_Tokens_cutToken_22 : decode b_Tokens_cutToken 22 = .ok (.invokestatic 54, 3) := by decide +kernel
theorem d_Tokens_cutToken_25 : decode b_Tokens_cutToken 25 = .ok (.ifCond .eq 8, 3) := by decide +kernel
theorem d_Tokens_cutToken_28 : decode b_Tokens_cutToken 28 = .ok (.aload_n 0, 1) := by decide +kernel
theorem d_Tokens_cutToken_29 : decode b_Tokens_cutToken 29 = .ok (.invokevirtual 58, 3) := by decide +kernel
theorem d_Tokens_cutToken_32 : decode b_Tokens_cutToken 32 = .ok (.ireturn, 1) := by decide +kernel
theorem d_Tokens_cutToken_33 : decode b_Tokens_cutToken 33 = .ok (.aload_n 0, 1) := by decide +kernel
theorem d_Tokens_cutToken_34 : decode b_Tokens_cutToken 34 = .ok (.getfield 15, 3) := by decide +kernel
theorem d_Tokens_cutToken_37 : decode b_Tokens_cutToken 37 = .ok (.aload_n 0, 1) := by decide +kernel
theorem d_Tokens_cutToken_38 : decode b_Tokens_cutToken 38 = .ok (.getfield 44, 3) := by decide +kernel
theorem d_Tokens_cutToken_41 : decode b_Tokens_cutToken 41 = .ok (.caload, 1) := by decide +kernel
theorem d_Tokens_cutToken_42 : decode b_Tokens_cutToken 42 = .ok (.invokestatic 61, 3) := by decide +kernel
theorem d_Tokens_cutToken_45 : decode b_Tokens_cutToken 45 = .ok (.ifCond .eq 8, 3) := by decide +kernel
theorem d_Tokens_cutToken_48 : decode b_Tokens_cutToken 48 = .ok (.aload_n 0, 1) := by decide +kernel
theorem d_Tokens_cutToken_49 : decode b_Tokens_cutToken 49 = .ok (.invokevirtual 64, 3) := by decide +kernel
theorem d_Tokens_cutToken_52 : decode b_Tokens_cutToken 52 = .ok (.ireturn, 1) := by decide +kernel
theorem d_Tokens_cutToken_53 : decode b_Tokens_cutToken 53 = .ok (.aload_n 0, 1) := by decide +kernel
theorem d_Tokens_cutToken_54 : decode b_Tokens_cutToken 54 = .ok (.getfield 15, 3) := by decide +kernel
theorem d_Tokens_cutToken_57 : decode b_Tokens_cutToken 57 = .ok (.aload_n 0, 1) := by decide +kernel
theorem d_Tokens_cutToken_58 : decode b_Tokens_cutToken 58 = .ok (.getfield 44, 3) := by decide +kernel
theorem d_Tokens_cutToken_61 : decode b_Tokens_cutToken 61 = .ok (.caload, 1) := by decide +kernel
theorem d_Tokens_cutToken_62 : decode b_Tokens_cutToken 62 = .ok (.istore_n 1, 1) := by decide +kernel
theorem d_Tokens_cutToken_63 : decode b_Tokens_cutToken 63 = .ok (.aload_n 0, 1) := by decide +kernel
theorem d_Tokens_cutToken_64 : decode b_Tokens_cutToken 64 = .ok (.dup, 1) := by decide +kernel
theorem d_Tokens_cutToken_65 : decode b_Tokens_cutToken 65 = .ok (.getfield 44, 3) := by decide +kernel
theorem d_Tokens_cutToken_68 : decode b_Tokens_cutToken 68 = .ok (.iconst 1, 1) := by decide +kernel
theorem d_Tokens_cutToken_69 : decode b_Tokens_cutToken 69 = .ok (.iadd, 1) := by decide +kernel
theorem d_Tokens_cutToken_70 : decode b_Tokens_cutToken 70 = .ok (.putfield 44, 3) := by decide +kernel
theorem d_Tokens_cutToken_73 : decode b_Tokens_cutToken 73 = .ok (.ldc 67, 2) := by decide +kernel
theorem d_Tokens_cutToken_75 : decode b_Tokens_cutToken 75 = .ok (.iload_n 1, 1) := by decide +kernel
theorem d_Tokens_cutToken_76 : decode b_Tokens_cutToken 76 = .ok (.invokevirtual 69, 3) := by decide +kernel
theorem d_Tokens_cutToken_79 : decode b_Tokens_cutToken 79 = .ok (.ifCond .lt 7, 3) := by decide +kernel
theorem d_Tokens_cutToken_82 : decode b_Tokens_cutToken 82 = .ok (.iload_n 1, 1) := by decide +kernel
theorem d_Tokens_cutToken_83 : decode b_Tokens_cutToken 83 = .ok (.goto 4, 3) := by decide +kernel
theorem d_Tokens_cutToken_86 : decode b_Tokens_cutToken 86 = .ok (.iconst 1, 1) := by decide +kernel
theorem d_Tokens_cutToken_87 : decode b_Tokens_cutToken 87 = .ok (.ireturn, 1) := by decide +kernel
def μ_Tokens_cutToken : ax_M := (b_Tokens_cutToken, 2, "DotConsole$Tokens", (some .int), 4, 91, 0, 0)
theorem Y_Tokens_cutToken : ax_YV μ_Tokens_cutToken y_Tokens_cutToken 0 := ⟨⟨ax_mem (by decide +kernel) rfl, ax_mem (by decide +kernel) rfl, by decide, by decide, by decide +kernel⟩, ax_mem (by decide +kernel) rfl, ax_mem (by decide +kernel) rfl⟩
theorem km_Tokens_69 : Cond.methodLink "DotConsole$Tokens" 69 ⟨"java/lang/String", "indexOf", "(I)I"⟩ ∈ ax_T := ax_mem (by decide +kernel) rfl
theorem km_Tokens_64 : Cond.methodLink "DotConsole$Tokens" 64 ⟨"DotConsole$Tokens", "cutNumber", "()I"⟩ ∈ ax_T := ax_mem (by decide +kernel) rfl
theorem km_Tokens_58 : Cond.methodLink "DotConsole$Tokens" 58 ⟨"DotConsole$Tokens", "cutWord", "()I"⟩ ∈ ax_T := ax_mem (by decide +kernel) rfl
def J_Tokens_cutToken (N : Nat) (σ : St) : Option (Int32 × St) :=
  (if (σ.1 3) = (σ.1 1) then
  some (0, σ)
  else (if (inB (σ.1 3) 48) = true then ax_bind (J_Tokens_isLetter N (σ.2 1 (σ.1 3).toNatClampNeg) σ) (fun r1 σ1 =>
  (if r1 = 0 then
  (if (inB (σ1.1 3) 48) = true then ax_bind (J_Tokens_isDigit N (σ1.2 1 (σ1.1 3).toNatClampNeg) σ1) (fun r2 σ2 =>
  (if r2 = 0 then
  (if (inB (σ2.1 3) 48) = true then ax_let ((σ2.2 1 (σ2.1 3).toNatClampNeg) : Int32) (fun v1 =>
  ax_let (sF σ2 3 ((σ2.1 3) + 1)) (fun σ3 =>
  ax_bind (J_CString_indexOf_0_X1 N v1 σ3) (fun r3 σ4 =>
  (if r3 < 0 then
  some (1, σ4)
  else some (v1, σ4))))) else none)
  else ax_bind (J_Tokens_cutNumber N σ2) (fun r4 σ5 =>
  some (r4, σ5)))) else none)
  else ax_bind (J_Tokens_cutWord N σ1) (fun r5 σ6 =>
  some (r5, σ6)))) else none))
set_option maxHeartbeats 1000000 in
theorem c_Tokens_cutToken {N : Nat} {g : ax_G} {σ : St} {r9 : Int32} {s9 : St} (hJ : J_Tokens_cutToken N σ = some (r9, s9)) : ax_CI μ_Tokens_cutToken g y_Tokens_cutToken (wC g) [.ref (g.2.1 1)] σ (ax_eqI r9 s9) := by
  refine ax_CI.of (plainFor_of_name rfl) rfl (Nat.le_of_ble_eq_true rfl) (fun x A _ => ?_)
  show AW x μ_Tokens_cutToken g A (wC g) (0, 0) (ax_QI x μ_Tokens_cutToken g A (wC g) (ax_eqI r9 s9)) 0 [(0, .ref (g.2.1 1))] [] σ
  rw [J_Tokens_cutToken] at hJ
  refine aw_aload_n (n := 1) d_Tokens_cutToken_0 rfl rfl 0 rfl ?_
  refine gf_Tokens_next (n := 4) d_Tokens_cutToken_1 rfl kf_Tokens_44 ?_
  refine aw_aload_n (n := 5) d_Tokens_cutToken_4 rfl rfl 0 rfl ?_
  refine gf_Tokens_length (n := 8) d_Tokens_cutToken_5 rfl kf_Tokens_40 ?_
  refine aw_icmp_ne (n := 11) (t := 13) d_Tokens_cutToken_8 rfl (by decide) (fun c1 => ?_) (fun c1 => ?_)
  · rw [if_neg c1] at hJ
    refine aw_aload_n (n := 14) d_Tokens_cutToken_13 rfl rfl 0 rfl ?_
    refine gf_Tokens_text (n := 17) d_Tokens_cutToken_14 rfl kf_Tokens_15 ?_
    refine aw_aload_n (n := 18) d_Tokens_cutToken_17 rfl rfl 0 rfl ?_
    refine gf_Tokens_next (n := 21) d_Tokens_cutToken_18 rfl kf_Tokens_44 ?_
    obtain ⟨h1, hJ⟩ := ax_need hJ
    refine al_3 (n := 22) d_Tokens_cutToken_21 rfl h1 ?_
    obtain ⟨r1, σ1, hc1, hJ⟩ := ax_bindE hJ
    refine aw_callSi (n := 25) (c_Tokens_isLetter hc1) Y_Tokens_isLetter km_Tokens_54 (by decide) (by decide) rfl rfl (Nat.le_of_ble_eq_true rfl) d_Tokens_cutToken_22 rfl (fun r9 s9 hp => ?_)
    obtain ⟨rfl, rfl, hb1⟩ := hp
    refine aw_if_eq (n := 28) (t := 33) d_Tokens_cutToken_25 rfl (by decide) (fun c2 => ?_) (fun c2 => ?_)
    · rw [if_pos c2] at hJ
      refine aw_aload_n (n := 34) d_Tokens_cutToken_33 rfl rfl 0 rfl ?_
      refine gf_Tokens_text (n := 37) d_Tokens_cutToken_34 rfl kf_Tokens_15 ?_
      refine aw_aload_n (n := 38) d_Tokens_cutToken_37 rfl rfl 0 rfl ?_
      refine gf_Tokens_next (n := 41) d_Tokens_cutToken_38 rfl kf_Tokens_44 ?_
      obtain ⟨h2, hJ⟩ := ax_need hJ
      refine al_3 (n := 42) d_Tokens_cutToken_41 rfl h2 ?_
      obtain ⟨r2, σ2, hc2, hJ⟩ := ax_bindE hJ
      refine aw_callSi (n := 45) (c_Tokens_isDigit hc2) Y_Tokens_isDigit km_Tokens_61 (by decide) (by decide) rfl rfl (Nat.le_of_ble_eq_true rfl) d_Tokens_cutToken_42 rfl (fun r9 s9 hp => ?_)
      obtain ⟨rfl, rfl, hb2⟩ := hp
      refine aw_if_eq (n := 48) (t := 53) d_Tokens_cutToken_45 rfl (by decide) (fun c3 => ?_) (fun c3 => ?_)
      · rw [if_pos c3] at hJ
        refine aw_aload_n (n := 54) d_Tokens_cutToken_53 rfl rfl 0 rfl ?_
        refine gf_Tokens_text (n := 57) d_Tokens_cutToken_54 rfl kf_Tokens_15 ?_
        refine aw_aload_n (n := 58) d_Tokens_cutToken_57 rfl rfl 0 rfl ?_
        refine gf_Tokens_next (n := 61) d_Tokens_cutToken_58 rfl kf_Tokens_44 ?_
        obtain ⟨h3, hJ⟩ := ax_need hJ
        refine al_3 (n := 62) d_Tokens_cutToken_61 rfl h3 ?_
        obtain ⟨v1, ev1, hJ⟩ := ax_letE hJ
        refine aw_top ev1 ?_
        refine aw_istore_n (n := 63) d_Tokens_cutToken_62 rfl rfl (by decide) rfl ?_
        refine aw_aload_n (n := 64) d_Tokens_cutToken_63 rfl rfl 1 rfl ?_
        refine aw_dup (n := 65) d_Tokens_cutToken_64 rfl rfl ?_
        refine gf_Tokens_next (n := 68) d_Tokens_cutToken_65 rfl kf_Tokens_44 ?_
        refine aw_iconst (n := 69) (v := 1) d_Tokens_cutToken_68 rfl (by decide) ?_
        refine aw_iadd (n := 70) d_Tokens_cutToken_69 rfl ?_
        refine pf_Tokens_next (n := 73) d_Tokens_cutToken_70 rfl kf_Tokens_44 ?_
        obtain ⟨σ3, eσ3, hJ⟩ := ax_letE hJ
        refine aw_let eσ3 ?_
        refine ld_1 (n := 75) rfl d_Tokens_cutToken_73 rfl ?_
        refine aw_iload_n (n := 76) d_Tokens_cutToken_75 rfl rfl 0 rfl ?_
        obtain ⟨r3, σ4, hc3, hJ⟩ := ax_bindE hJ
        refine aw_callXi (n := 79) (c_CString_indexOf_0_X1 hc3) rx_1 Y_CString_indexOf_0_X1 km_Tokens_69 (by decide) (by decide) rfl rfl (Nat.le_of_ble_eq_true rfl) d_Tokens_cutToken_76 rfl (fun r9 s9 hp => ?_)
        obtain ⟨rfl, rfl⟩ := hp
        refine aw_if_lt (n := 82) (t := 86) d_Tokens_cutToken_79 rfl (by decide) (fun c4 => ?_) (fun c4 => ?_)
        · rw [if_pos c4] at hJ
          refine aw_iconst (n := 87) (v := 1) d_Tokens_cutToken_86 rfl (by decide) ?_
          exact aw_iret d_Tokens_cutToken_87 rfl (ax_ret hJ)
        · rw [if_neg c4] at hJ
          refine aw_iload_n (n := 83) d_Tokens_cutToken_82 rfl rfl 0 rfl ?_
          refine aw_goto (t := 87) d_Tokens_cutToken_83 (by decide) ?_
          exact aw_iret d_Tokens_cutToken_87 rfl (ax_ret hJ)
      · rw [if_neg c3] at hJ
        refine aw_aload_n (n := 49) d_Tokens_cutToken_48 rfl rfl 0 rfl ?_
        obtain ⟨r4, σ5, hc4, hJ⟩ := ax_bindE hJ
        refine aw_callVi (n := 52) (c_Tokens_cutNumber hc4) 1 rfl rfl Y_Tokens_cutNumber km_Tokens_64 (by decide) (by decide) rfl rfl (Nat.le_of_ble_eq_true rfl) d_Tokens_cutToken_49 rfl (fun r9 s9 hp => ?_)
        obtain ⟨rfl, rfl⟩ := hp
        exact aw_iret d_Tokens_cutToken_52 rfl (ax_ret hJ)
    · rw [if_neg c2] at hJ
      refine aw_aload_n (n := 29) d_Tokens_cutToken_28 rfl rfl 0 rfl ?_
      obtain ⟨r5, σ6, hc5, hJ⟩ := ax_bindE hJ
      refine aw_callVi (n := 32) (c_Tokens_cutWord hc5) 1 rfl rfl Y_Tokens_cutWord km_Tokens_58 (by decide) (by decide) rfl rfl (Nat.le_of_ble_eq_true rfl) d_Tokens_cutToken_29 rfl (fun r9 s9 hp => ?_)
      obtain ⟨rfl, rfl⟩ := hp
      exact aw_iret d_Tokens_cutToken_32 rfl (ax_ret hJ)
  · rw [if_pos c1] at hJ
    refine aw_iconst (n := 12) (v := 0) d_Tokens_cutToken_11 rfl (by decide) ?_
    exact aw_iret d_Tokens_cutToken_12 rfl (ax_ret hJ)
abbrev b_Tokens_cut : ByteArray := prog_8_method_4_code
def y_Tokens_cut : MethodName := ⟨"DotConsole$Tokens", "cut", "()V"⟩
theorem d_Tokens_cut_0 : decode b_Tokens_cut 0 = .ok (.aload_n 0, 1) := by decide +kernel
theorem d_Tokens_cut_1 : decode b_Tokens_cut 1 = .ok (.iconst 0, 1) := by decide +kernel
theorem d_Tokens_cut_2 : decode b_Tokens_cut 2 = .ok (.putfield 44, 3) := by decide +kernel
theorem d_Tokens_cut_5 : decode b_Tokens_cut 5 = .ok (.aload_n 0, 1) := by decide +kernel
theorem d_Tokens_cut_6 : decode b_Tokens_cut 6 = .ok (.iconst 0, 1) := by decide +kernel
theorem d_Tokens_cut_7 : decode b_Tokens_cut 7 = .ok (.putfield 47, 3) := by decide +kernel
theorem d_Tokens_cut_10 : decode b_Tokens_cut 10 = .ok (.aload_n 0, 1) := by decide +kernel
theorem d_Tokens_cut_11 : decode b_Tokens_cut 11 = .ok (.getfield 47, 3) := by decide +kernel
theorem d_Tokens_cut_14 : decode b_Tokens_cut 14 = .ok (.bipush 48, 2) := by decide +kernel
theorem d_Tokens_cut_16 : decode b_Tokens_cut 16 = .ok (.if_icmp .gt 106, 3) := by decide +kernel
theorem d_Tokens_cut_19 : decode b_Tokens_cut 19 = .ok (.aload_n 0, 1) := by decide +kernel
theorem d_Tokens_cut_20 : decode b_Tokens_cut 20 = .ok (.getfield 44, 3) := by decide +kernel
theorem d_Tokens_cut_23 : decode b_Tokens_cut 23 = .ok (.aload_n 0, 1) := by decide +kernel
theorem d_Tokens_cut_24 : decode b_Tokens_cut 24 = .ok (.getfield 40, 3) := by decide +kernel
theorem d_Tokens_cut_27 : decode b_Tokens_cut 27 = .ok (.if_icmp .ge 30, 3) := by decide +kernel
theorem d_Tokens_cut_30 : decode b_Tokens_cut 30 = .ok (.aload_n 0, 1) := by decide +kernel
theorem d_Tokens_cut_31 : decode b_Tokens_cut 31 = .ok (.getfield 15, 3) := by decide +kernel
theorem d_Tokens_cut_34 : decode b_Tokens_cut 34 = .ok (.aload_n 0, 1) := by decide +kernel
theorem d_Tokens_cut_35 : decode b_Tokens_cut 35 = .ok (.getfield 44, 3) := by decide +kernel
theorem d_Tokens_cut_38 : decode b_Tokens_cut 38 = .ok (.caload, 1) := by decide +kernel
theorem d_Tokens_cut_39 : decode b_Tokens_cut 39 = .ok (.bipush 32, 2) := by decide +kernel
theorem d_Tokens_cut_41 : decode b_Tokens_cut 41 = .ok (.if_icmp .ne 16, 3) := by decide +kernel
theorem d_Tokens_cut_44 : decode b_Tokens_cut 44 = .ok (.aload_n 0, 1) := by decide +kernel
theorem d_Tokens_cut_45 : decode b_Tokens_cut 45 = .ok (.dup, 1) := by decide +kernel
theorem d_Tokens_cut_46 : decode b_Tokens_cut 46 = .ok (.getfield 44, 3) := by decide +kernel
theorem d_Tokens_cut_49 : decode b_Tokens_cut 49 = .ok (.iconst 1, 1) := by decide +kernel
theorem d_Tokens_cut_50 : decode b_Tokens_cut 50 = .ok (.iadd, 1) := by decide +kernel
theorem d_Tokens_cut_51 : decode b_Tokens_cut 51 = .ok (.putfield 44, 3) := by decide +kernel
theorem d_Tokens_cut_54 : decode b_Tokens_cut 54 = .ok (.goto (-35), 3) := by decide +kernel
theorem d_Tokens_cut_57 : decode b_Tokens_cut 57 = .ok (.aload_n 0, 1) := by decide +kernel
theorem d_Tokens_cut_58 : decode b_Tokens_cut 58 = .ok (.getfield 22, 3) := by decide +kernel
theorem d_Tokens_cut_61 : decode b_Tokens_cut 61 = .ok (.aload_n 0, 1) := by decide +kernel
theorem d_Tokens_cut_62 : decode b_Tokens_cut 62 = .ok (.getfield 47, 3) := by decide +kernel
theorem d_Tokens_cut_65 : decode b_Tokens_cut 65 = .ok (.aload_n 0, 1) := by decide +kernel
theorem d_Tokens_cut_66 : decode b_Tokens_cut 66 = .ok (.getfield 44, 3) := by decide +kernel
theorem d_Tokens_cut_69 : decode b_Tokens_cut 69 = .ok (.iastore, 1) := by decide +kernel
theorem d_Tokens_cut_70 : decode b_Tokens_cut 70 = .ok (.aload_n 0, 1) := by decide +kernel
theorem d_Tokens_cut_71 : decode b_Tokens_cut 71 = .ok (.getfield 19, 3) := by decide +kernel
theorem d_Tokens_cut_74 : decode b_Tokens_cut 74 = .ok (.aload_n 0, 1) := by decide +kernel
theorem d_Tokens_cut_75 : decode b_Tokens_cut 75 = .ok (.getfield 47, 3) := by decide +kernel
theorem d_Tokens_cut_78 : decode b_Tokens_cut 78 = .ok (.aload_n 0, 1) := by decide +kernel
theorem d_Tokens_cut_79 : decode b_Tokens_cut 79 = .ok (.invokevirtual 50, 3) := by decide +kernel
theorem d_Tokens_cut_82 : decode b_Tokens_cut 82 = .ok (.iastore, 1) := by decide +kernel
theorem d_Tokens_cut_83 : decode b_Tokens_cut 83 = .ok (.aload_n 0, 1) := by decide +kernel
theorem d_Tokens_cut_84 : decode b_Tokens_cut 84 = .ok (.getfield 19, 3) := by decide +kernel
theorem d_Tokens_cut_87 : decode b_Tokens_cut 87 = .ok (.aload_n 0, 1) := by decide +kernel
theorem d_Tokens_cut_88 : decode b_Tokens_cut 88 = .ok (.getfield 47, 3) := by decide +kernel
theorem d_Tokens_cut_91 : decode b_Tokens_cut 91 = .ok (.iaload, 1) := by decide +kernel
theorem d_Tokens_cut_92 : decode b_Tokens_cut 92 = .ok (.ifCond .eq 16, 3) := by decide +kernel
theorem d_Tokens_cut_95 : decode b_Tokens_cut 95 = .ok (.aload_n 0, 1) := by decide +kernel
theorem d_Tokens_cut_96 : decode b_Tokens_cut 96 = .ok (.getfield 19, 3) := by decide +kernel
theorem d_Tokens_cut_99 : decode b_Tokens_cut 99 = .ok (.aload_n 0, 1) := by decide +kernel
theorem d_Tokens_cut_100 : decode b_Tokens_cut 100 = .ok (.getfield 47, 3) := by decide +kernel
theorem d_Tokens_cut_103 : decode b_Tokens_cut 103 = .ok (.iaload, 1) := by decide +kernel
theorem d_Tokens_cut_104 : decode b_Tokens_cut 104 = .ok (.iconst 1, 1) := by decide +kernel
theorem d_Tokens_cut_105 : decode b_Tokens_cut 105 = .ok (.if_icmp .ne 4, 3) := by decide +kernel
theorem d_Tokens_cut_108 : decode b_Tokens_cut 108 = .ok (.return_, 1) := by decide +kernel
theorem d_Tokens_cut_109 : decode b_Tokens_cut 109 = .ok (.aload_n 0, 1) := by decide +kernel
theorem d_Tokens_cut_110 : decode b_Tokens_cut 110 = .ok (.dup, 1) := by decide +kernel
theorem d_Tokens_cut_111 : decode b_Tokens_cut 111 = .ok (.getfield 47, 3) := by decide +kernel
theorem d_Tokens_cut_114 : decode b_Tokens_cut 114 = .ok (.iconst 1, 1) := by decide +kernel
theorem d_Tokens_cut_115 : decode b_Tokens_cut 115 = .ok (.iadd, 1) := by decide +kernel
theorem d_Tokens_cut_116 : decode b_Tokens_cut 116 = .ok (.putfield 47, 3) := by decide +kernel
theorem d_Tokens_cut_119 : decode b_Tokens_cut 119 = .ok (.goto (-109), 3) := by decide +kernel
theorem d_Tokens_cut_122 : decode b_Tokens_cut 122 = .ok (.return_, 1) := by decide +kernel
def μ_Tokens_cut : ax_M := (b_Tokens_cut, 1, "DotConsole$Tokens", none, 5, 112, 0, 0)
theorem Y_Tokens_cut : ax_YV μ_Tokens_cut y_Tokens_cut 0 := ⟨⟨ax_mem (by decide +kernel) rfl, ax_mem (by decide +kernel) rfl, by decide, by decide, by decide +kernel⟩, ax_mem (by decide +kernel) rfl, ax_mem (by decide +kernel) rfl⟩
theorem kf_Tokens_22 : Cond.fieldLink "DotConsole$Tokens" 22 "DotConsole$Tokens" "starts" "[I" ∈ ax_T := ax_mem (by decide +kernel) rfl
theorem kf_Tokens_19 : Cond.fieldLink "DotConsole$Tokens" 19 "DotConsole$Tokens" "kinds" "[I" ∈ ax_T := ax_mem (by decide +kernel) rfl
theorem km_Tokens_50 : Cond.methodLink "DotConsole$Tokens" 50 ⟨"DotConsole$Tokens", "cutToken", "()I"⟩ ∈ ax_T := ax_mem (by decide +kernel) rfl
def J_Tokens_cut_57 (N : Nat) (K10 : St → Option St) (σ : St) : Option St :=
  (if (inB (σ.1 2) 49) = true then ax_let (sA σ 3 (σ.1 2).toNatClampNeg (σ.1 3)) (fun σ4 =>
  ax_bind (J_Tokens_cutToken N σ4) (fun r1 σ5 =>
  (if (inB (σ4.1 2) 49) = true then ax_let (sA σ5 2 (σ4.1 2).toNatClampNeg r1) (fun σ6 =>
  (if (inB (σ6.1 2) 49) = true then (if (σ6.2 2 (σ6.1 2).toNatClampNeg) = 0 then
  some σ6
  else (if (inB (σ6.1 2) 49) = true then (if (σ6.2 2 (σ6.1 2).toNatClampNeg) = 1 then
  some σ6
  else ax_let (sF σ6 2 ((σ6.1 2) + 1)) (fun σ7 =>
  K10 σ7)) else none)) else none)) else none))) else none)
def J_Tokens_cut_19 (N : Nat) (K10 : St → Option St) : Nat → St → Option St
  | 0, _ => none
  | n + 1, σ => (if (σ.1 1) ≤ (σ.1 3) then
  J_Tokens_cut_57 N K10 σ
  else (if (inB (σ.1 3) 48) = true then (if (σ.2 1 (σ.1 3).toNatClampNeg) = 32 then
  ax_let (sF σ 3 ((σ.1 3) + 1)) (fun σ3 =>
  J_Tokens_cut_19 N K10 n σ3)
  else J_Tokens_cut_57 N K10 σ) else none))
def J_Tokens_cut_10 (N : Nat) : Nat → St → Option St
  | 0, _ => none
  | n + 1, σ => (if 48 < (σ.1 2) then
  some σ
  else J_Tokens_cut_19 N (fun σ => J_Tokens_cut_10 N n σ) N σ)
def J_Tokens_cut (N : Nat) (σ : St) : Option St :=
  ax_let (sF σ 3 0) (fun σ1 =>
  ax_let (sF σ1 2 0) (fun σ2 =>
  J_Tokens_cut_10 N N σ2))
set_option maxHeartbeats 1000000 in
theorem t_Tokens_cut_57 {N : Nat} {g : ax_G} {s9 : St} (x : ax_X) (A : Nat → Prop) {K10 : St → Option St} (hK10 : ∀ (σ : St), K10 σ = some s9 → AW x μ_Tokens_cut g A (wC g) (0, 0) (ax_QV x μ_Tokens_cut g A (wC g) (ax_eqV s9)) 10 [(0, .ref (g.2.1 1))] [] σ) : ∀ (σ : St), J_Tokens_cut_57 N K10 σ = some s9 → AW x μ_Tokens_cut g A (wC g) (0, 0) (ax_QV x μ_Tokens_cut g A (wC g) (ax_eqV s9)) 57 [(0, .ref (g.2.1 1))] [] σ := by
  intro σ hJ
  rw [J_Tokens_cut_57] at hJ
  refine aw_aload_n (n := 58) d_Tokens_cut_57 rfl rfl 0 rfl ?_
  refine gf_Tokens_starts (n := 61) d_Tokens_cut_58 rfl kf_Tokens_22 ?_
  refine aw_aload_n (n := 62) d_Tokens_cut_61 rfl rfl 0 rfl ?_
  refine gf_Tokens_found (n := 65) d_Tokens_cut_62 rfl kf_Tokens_47 ?_
  refine aw_aload_n (n := 66) d_Tokens_cut_65 rfl rfl 0 rfl ?_
  refine gf_Tokens_next (n := 69) d_Tokens_cut_66 rfl kf_Tokens_44 ?_
  obtain ⟨h2, hJ⟩ := ax_need hJ
  refine as_5 (n := 70) d_Tokens_cut_69 rfl h2 ?_
  obtain ⟨σ4, eσ4, hJ⟩ := ax_letE hJ
  refine aw_let eσ4 ?_
  refine aw_aload_n (n := 71) d_Tokens_cut_70 rfl rfl 0 rfl ?_
  refine gf_Tokens_kinds (n := 74) d_Tokens_cut_71 rfl kf_Tokens_19 ?_
  refine aw_aload_n (n := 75) d_Tokens_cut_74 rfl rfl 0 rfl ?_
  refine gf_Tokens_found (n := 78) d_Tokens_cut_75 rfl kf_Tokens_47 ?_
  refine aw_aload_n (n := 79) d_Tokens_cut_78 rfl rfl 0 rfl ?_
  obtain ⟨r1, σ5, hc1, hJ⟩ := ax_bindE hJ
  refine aw_callVi (n := 82) (c_Tokens_cutToken hc1) 1 rfl rfl Y_Tokens_cutToken km_Tokens_50 (by decide) (by decide) rfl rfl (Nat.le_of_ble_eq_true rfl) d_Tokens_cut_79 rfl (fun r9 s9 hp => ?_)
  obtain ⟨rfl, rfl⟩ := hp
  obtain ⟨h3, hJ⟩ := ax_need hJ
  refine as_4 (n := 83) d_Tokens_cut_82 rfl h3 ?_
  obtain ⟨σ6, eσ6, hJ⟩ := ax_letE hJ
  refine aw_let eσ6 ?_
  refine aw_aload_n (n := 84) d_Tokens_cut_83 rfl rfl 0 rfl ?_
  refine gf_Tokens_kinds (n := 87) d_Tokens_cut_84 rfl kf_Tokens_19 ?_
  refine aw_aload_n (n := 88) d_Tokens_cut_87 rfl rfl 0 rfl ?_
  refine gf_Tokens_found (n := 91) d_Tokens_cut_88 rfl kf_Tokens_47 ?_
  obtain ⟨h4, hJ⟩ := ax_need hJ
  refine al_4 (n := 92) d_Tokens_cut_91 rfl h4 ?_
  refine aw_if_eq (n := 95) (t := 108) d_Tokens_cut_92 rfl (by decide) (fun c4 => ?_) (fun c4 => ?_)
  · rw [if_pos c4] at hJ
    exact aw_vret d_Tokens_cut_108 rfl (ax_retV hJ)
  · rw [if_neg c4] at hJ
    refine aw_aload_n (n := 96) d_Tokens_cut_95 rfl rfl 0 rfl ?_
    refine gf_Tokens_kinds (n := 99) d_Tokens_cut_96 rfl kf_Tokens_19 ?_
    refine aw_aload_n (n := 100) d_Tokens_cut_99 rfl rfl 0 rfl ?_
    refine gf_Tokens_found (n := 103) d_Tokens_cut_100 rfl kf_Tokens_47 ?_
    obtain ⟨h5, hJ⟩ := ax_need hJ
    refine al_4 (n := 104) d_Tokens_cut_103 rfl h5 ?_
    refine aw_iconst (n := 105) (v := 1) d_Tokens_cut_104 rfl (by decide) ?_
    refine aw_icmp_ne (n := 108) (t := 109) d_Tokens_cut_105 rfl (by decide) (fun c5 => ?_) (fun c5 => ?_)
    · rw [if_neg c5] at hJ
      refine aw_aload_n (n := 110) d_Tokens_cut_109 rfl rfl 0 rfl ?_
      refine aw_dup (n := 111) d_Tokens_cut_110 rfl rfl ?_
      refine gf_Tokens_found (n := 114) d_Tokens_cut_111 rfl kf_Tokens_47 ?_
      refine aw_iconst (n := 115) (v := 1) d_Tokens_cut_114 rfl (by decide) ?_
      refine aw_iadd (n := 116) d_Tokens_cut_115 rfl ?_
      refine pf_Tokens_found (n := 119) d_Tokens_cut_116 rfl kf_Tokens_47 ?_
      obtain ⟨σ7, eσ7, hJ⟩ := ax_letE hJ
      refine aw_let eσ7 ?_
      refine aw_goto (t := 10) d_Tokens_cut_119 (by decide) ?_
      exact hK10 _ hJ
    · rw [if_pos c5] at hJ
      exact aw_vret d_Tokens_cut_108 rfl (ax_retV hJ)
set_option maxHeartbeats 1000000 in
theorem t_Tokens_cut_19 {N : Nat} {g : ax_G} {s9 : St} (x : ax_X) (A : Nat → Prop) {K10 : St → Option St} (hK10 : ∀ (σ : St), K10 σ = some s9 → AW x μ_Tokens_cut g A (wC g) (0, 0) (ax_QV x μ_Tokens_cut g A (wC g) (ax_eqV s9)) 10 [(0, .ref (g.2.1 1))] [] σ) : ∀ (n : Nat) (σ : St), J_Tokens_cut_19 N K10 n σ = some s9 → AW x μ_Tokens_cut g A (wC g) (0, 0) (ax_QV x μ_Tokens_cut g A (wC g) (ax_eqV s9)) 19 [(0, .ref (g.2.1 1))] [] σ := by
  intro n
  induction n with
  | zero => intro σ hJ; rw [J_Tokens_cut_19] at hJ; cases hJ
  | succ n ih =>
    intro σ hJ
    rw [J_Tokens_cut_19] at hJ
    refine aw_aload_n (n := 20) d_Tokens_cut_19 rfl rfl 0 rfl ?_
    refine gf_Tokens_next (n := 23) d_Tokens_cut_20 rfl kf_Tokens_44 ?_
    refine aw_aload_n (n := 24) d_Tokens_cut_23 rfl rfl 0 rfl ?_
    refine gf_Tokens_length (n := 27) d_Tokens_cut_24 rfl kf_Tokens_40 ?_
    refine aw_icmp_ge (n := 30) (t := 57) d_Tokens_cut_27 rfl (by decide) (fun c2 => ?_) (fun c2 => ?_)
    · rw [if_pos c2] at hJ
      exact t_Tokens_cut_57 x A hK10 _ hJ
    · rw [if_neg c2] at hJ
      refine aw_aload_n (n := 31) d_Tokens_cut_30 rfl rfl 0 rfl ?_
      refine gf_Tokens_text (n := 34) d_Tokens_cut_31 rfl kf_Tokens_15 ?_
      refine aw_aload_n (n := 35) d_Tokens_cut_34 rfl rfl 0 rfl ?_
      refine gf_Tokens_next (n := 38) d_Tokens_cut_35 rfl kf_Tokens_44 ?_
      obtain ⟨h1, hJ⟩ := ax_need hJ
      refine al_3 (n := 39) d_Tokens_cut_38 rfl h1 ?_
      refine aw_bipush (n := 41) (v := 32) d_Tokens_cut_39 rfl (by decide) ?_
      refine aw_icmp_ne (n := 44) (t := 57) d_Tokens_cut_41 rfl (by decide) (fun c3 => ?_) (fun c3 => ?_)
      · rw [if_neg c3] at hJ
        exact t_Tokens_cut_57 x A hK10 _ hJ
      · rw [if_pos c3] at hJ
        refine aw_aload_n (n := 45) d_Tokens_cut_44 rfl rfl 0 rfl ?_
        refine aw_dup (n := 46) d_Tokens_cut_45 rfl rfl ?_
        refine gf_Tokens_next (n := 49) d_Tokens_cut_46 rfl kf_Tokens_44 ?_
        refine aw_iconst (n := 50) (v := 1) d_Tokens_cut_49 rfl (by decide) ?_
        refine aw_iadd (n := 51) d_Tokens_cut_50 rfl ?_
        refine pf_Tokens_next (n := 54) d_Tokens_cut_51 rfl kf_Tokens_44 ?_
        obtain ⟨σ3, eσ3, hJ⟩ := ax_letE hJ
        refine aw_let eσ3 ?_
        refine aw_goto (t := 19) d_Tokens_cut_54 (by decide) ?_
        exact ih _ hJ
set_option maxHeartbeats 1000000 in
theorem t_Tokens_cut_10 {N : Nat} {g : ax_G} {s9 : St} (x : ax_X) (A : Nat → Prop) : ∀ (n : Nat) (σ : St), J_Tokens_cut_10 N n σ = some s9 → AW x μ_Tokens_cut g A (wC g) (0, 0) (ax_QV x μ_Tokens_cut g A (wC g) (ax_eqV s9)) 10 [(0, .ref (g.2.1 1))] [] σ := by
  intro n
  induction n with
  | zero => intro σ hJ; rw [J_Tokens_cut_10] at hJ; cases hJ
  | succ n ih =>
    intro σ hJ
    rw [J_Tokens_cut_10] at hJ
    refine aw_aload_n (n := 11) d_Tokens_cut_10 rfl rfl 0 rfl ?_
    refine gf_Tokens_found (n := 14) d_Tokens_cut_11 rfl kf_Tokens_47 ?_
    refine aw_bipush (n := 16) (v := 48) d_Tokens_cut_14 rfl (by decide) ?_
    refine aw_icmp_gt (n := 19) (t := 122) d_Tokens_cut_16 rfl (by decide) (fun c1 => ?_) (fun c1 => ?_)
    · rw [if_pos c1] at hJ
      exact aw_vret d_Tokens_cut_122 rfl (ax_retV hJ)
    · rw [if_neg c1] at hJ
      exact t_Tokens_cut_19 x A ih N _ hJ
set_option maxHeartbeats 1000000 in
theorem c_Tokens_cut {N : Nat} {g : ax_G} {σ : St} {s9 : St} (hJ : J_Tokens_cut N σ = some s9) : ax_CV μ_Tokens_cut g y_Tokens_cut (wC g) [.ref (g.2.1 1)] σ (ax_eqV s9) := by
  refine ax_CV.of (plainFor_of_name rfl) rfl (Nat.le_of_ble_eq_true rfl) (fun x A _ => ?_)
  show AW x μ_Tokens_cut g A (wC g) (0, 0) (ax_QV x μ_Tokens_cut g A (wC g) (ax_eqV s9)) 0 [(0, .ref (g.2.1 1))] [] σ
  rw [J_Tokens_cut] at hJ
  refine aw_aload_n (n := 1) d_Tokens_cut_0 rfl rfl 0 rfl ?_
  refine aw_iconst (n := 2) (v := 0) d_Tokens_cut_1 rfl (by decide) ?_
  refine pf_Tokens_next (n := 5) d_Tokens_cut_2 rfl kf_Tokens_44 ?_
  obtain ⟨σ1, eσ1, hJ⟩ := ax_letE hJ
  refine aw_let eσ1 ?_
  refine aw_aload_n (n := 6) d_Tokens_cut_5 rfl rfl 0 rfl ?_
  refine aw_iconst (n := 7) (v := 0) d_Tokens_cut_6 rfl (by decide) ?_
  refine pf_Tokens_found (n := 10) d_Tokens_cut_7 rfl kf_Tokens_47 ?_
  obtain ⟨σ2, eσ2, hJ⟩ := ax_letE hJ
  refine aw_let eσ2 ?_
  exact t_Tokens_cut_10 x A N _ hJ
abbrev b_Names_forgetSeen : ByteArray := prog_4_method_2_code
def y_Names_forgetSeen : MethodName := ⟨"DotConsole$Names", "forgetSeen", "()V"⟩
theorem d_Names_forgetSeen_0 : decode b_Names_forgetSeen 0 = .ok (.aload_n 0, 1) := by decide +kernel
theorem d_Names_forgetSeen_1 : decode b_Names_forgetSeen 1 = .ok (.aload_n 0, 1) := by decide +kernel
theorem d_Names_forgetSeen_2 : decode b_Names_forgetSeen 2 = .ok (.getfield 15, 3) := by decide +kernel
theorem d_Names_forgetSeen_5 : decode b_Names_forgetSeen 5 = .ok (.putfield 19, 3) := by decide +kernel
theorem d_Names_forgetSeen_8 : decode b_Names_forgetSeen 8 = .ok (.aload_n 0, 1) := by decide +kernel
theorem d_Names_forgetSeen_9 : decode b_Names_forgetSeen 9 = .ok (.iconst 0, 1) := by decide +kernel
theorem d_Names_forgetSeen_10 : decode b_Names_forgetSeen 10 = .ok (.putfield 22, 3) := by decide +kernel
theorem d_Names_forgetSeen_13 : decode b_Names_forgetSeen 13 = .ok (.return_, 1) := by decide +kernel
def μ_Names_forgetSeen : ax_M := (b_Names_forgetSeen, 1, "DotConsole$Names", none, 0, 0, 0, 0)
theorem Y_Names_forgetSeen : ax_YV μ_Names_forgetSeen y_Names_forgetSeen 0 := ⟨⟨ax_mem (by decide +kernel) rfl, ax_mem (by decide +kernel) rfl, by decide, by decide, by decide +kernel⟩, ax_mem (by decide +kernel) rfl, ax_mem (by decide +kernel) rfl⟩
theorem kf_Names_15 : Cond.fieldLink "DotConsole$Names" 15 "DotConsole$Names" "kept" "I" ∈ ax_T := ax_mem (by decide +kernel) rfl
theorem kf_Names_19 : Cond.fieldLink "DotConsole$Names" 19 "DotConsole$Names" "seen" "I" ∈ ax_T := ax_mem (by decide +kernel) rfl
theorem kf_Names_22 : Cond.fieldLink "DotConsole$Names" 22 "DotConsole$Names" "tooMany" "Z" ∈ ax_T := ax_mem (by decide +kernel) rfl
def J_Names_forgetSeen (N : Nat) (σ : St) : Option St :=
  ax_let (sF σ 5 (σ.1 4)) (fun σ1 =>
  ax_let (sF σ1 6 0) (fun σ2 =>
  some σ2))
set_option maxHeartbeats 1000000 in
theorem c_Names_forgetSeen {N : Nat} {g : ax_G} {σ : St} {s9 : St} (hJ : J_Names_forgetSeen N σ = some s9) : ax_CV μ_Names_forgetSeen g y_Names_forgetSeen (wC g) [.ref (g.2.1 7)] σ (ax_eqV s9) := by
  refine ax_CV.of (plainFor_of_name rfl) rfl (Nat.le_of_ble_eq_true rfl) (fun x A _ => ?_)
  show AW x μ_Names_forgetSeen g A (wC g) (0, 0) (ax_QV x μ_Names_forgetSeen g A (wC g) (ax_eqV s9)) 0 [(0, .ref (g.2.1 7))] [] σ
  rw [J_Names_forgetSeen] at hJ
  refine aw_aload_n (n := 1) d_Names_forgetSeen_0 rfl rfl 0 rfl ?_
  refine aw_aload_n (n := 2) d_Names_forgetSeen_1 rfl rfl 0 rfl ?_
  refine gf_Names_kept (n := 5) d_Names_forgetSeen_2 rfl kf_Names_15 ?_
  refine pf_Names_seen (n := 8) d_Names_forgetSeen_5 rfl kf_Names_19 ?_
  obtain ⟨σ1, eσ1, hJ⟩ := ax_letE hJ
  refine aw_let eσ1 ?_
  refine aw_aload_n (n := 9) d_Names_forgetSeen_8 rfl rfl 0 rfl ?_
  refine aw_iconst (n := 10) (v := 0) d_Names_forgetSeen_9 rfl (by decide) ?_
  refine pf_Names_tooMany (n := 13) d_Names_forgetSeen_10 rfl kf_Names_22 rfl rfl ?_
  obtain ⟨σ2, eσ2, hJ⟩ := ax_letE hJ
  refine aw_let eσ2 ?_
  exact aw_vret d_Names_forgetSeen_13 rfl (ax_retV hJ)
abbrev b_LineReader_clear : ByteArray := prog_2_method_5_code
def y_LineReader_clear : MethodName := ⟨"DotConsole$LineReader", "clear", "()V"⟩
theorem d_LineReader_clear_0 : decode b_LineReader_clear 0 = .ok (.aload_n 0, 1) := by decide +kernel
theorem d_LineReader_clear_1 : decode b_LineReader_clear 1 = .ok (.getfield 34, 3) := by decide +kernel
theorem d_LineReader_clear_4 : decode b_LineReader_clear 4 = .ok (.invokevirtual 74, 3) := by decide +kernel
theorem d_LineReader_clear_7 : decode b_LineReader_clear 7 = .ok (.aload_n 0, 1) := by decide +kernel
theorem d_LineReader_clear_8 : decode b_LineReader_clear 8 = .ok (.iconst 0, 1) := by decide +kernel
theorem d_LineReader_clear_9 : decode b_LineReader_clear 9 = .ok (.putfield 50, 3) := by decide +kernel
theorem d_LineReader_clear_12 : decode b_LineReader_clear 12 = .ok (.aload_n 0, 1) := by decide +kernel
theorem d_LineReader_clear_13 : decode b_LineReader_clear 13 = .ok (.iconst 0, 1) := by decide +kernel
theorem d_LineReader_clear_14 : decode b_LineReader_clear 14 = .ok (.putfield 79, 3) := by decide +kernel
theorem d_LineReader_clear_17 : decode b_LineReader_clear 17 = .ok (.aload_n 0, 1) := by decide +kernel
theorem d_LineReader_clear_18 : decode b_LineReader_clear 18 = .ok (.iconst 0, 1) := by decide +kernel
theorem d_LineReader_clear_19 : decode b_LineReader_clear 19 = .ok (.putfield 38, 3) := by decide +kernel
theorem d_LineReader_clear_22 : decode b_LineReader_clear 22 = .ok (.aload_n 0, 1) := by decide +kernel
theorem d_LineReader_clear_23 : decode b_LineReader_clear 23 = .ok (.iconst 0, 1) := by decide +kernel
theorem d_LineReader_clear_24 : decode b_LineReader_clear 24 = .ok (.putfield 82, 3) := by decide +kernel
theorem d_LineReader_clear_27 : decode b_LineReader_clear 27 = .ok (.aload_n 0, 1) := by decide +kernel
theorem d_LineReader_clear_28 : decode b_LineReader_clear 28 = .ok (.iconst 0, 1) := by decide +kernel
theorem d_LineReader_clear_29 : decode b_LineReader_clear 29 = .ok (.putfield 42, 3) := by decide +kernel
theorem d_LineReader_clear_32 : decode b_LineReader_clear 32 = .ok (.aload_n 0, 1) := by decide +kernel
theorem d_LineReader_clear_33 : decode b_LineReader_clear 33 = .ok (.iconst 0, 1) := by decide +kernel
theorem d_LineReader_clear_34 : decode b_LineReader_clear 34 = .ok (.putfield 85, 3) := by decide +kernel
theorem d_LineReader_clear_37 : decode b_LineReader_clear 37 = .ok (.return_, 1) := by decide +kernel
def μ_LineReader_clear : ax_M := (b_LineReader_clear, 1, "DotConsole$LineReader", none, 1, 20, 0, 0)
theorem Y_LineReader_clear : ax_YV μ_LineReader_clear y_LineReader_clear 0 := ⟨⟨ax_mem (by decide +kernel) rfl, ax_mem (by decide +kernel) rfl, by decide, by decide, by decide +kernel⟩, ax_mem (by decide +kernel) rfl, ax_mem (by decide +kernel) rfl⟩
theorem kf_LineReader_34 : Cond.fieldLink "DotConsole$LineReader" 34 "DotConsole$LineReader" "names" "LDotConsole$Names;" ∈ ax_T := ax_mem (by decide +kernel) rfl
theorem km_LineReader_74 : Cond.methodLink "DotConsole$LineReader" 74 ⟨"DotConsole$Names", "forgetSeen", "()V"⟩ ∈ ax_T := ax_mem (by decide +kernel) rfl
theorem kf_LineReader_50 : Cond.fieldLink "DotConsole$LineReader" 50 "DotConsole$LineReader" "at" "I" ∈ ax_T := ax_mem (by decide +kernel) rfl
theorem kf_LineReader_79 : Cond.fieldLink "DotConsole$LineReader" 79 "DotConsole$LineReader" "target" "I" ∈ ax_T := ax_mem (by decide +kernel) rfl
theorem kf_LineReader_38 : Cond.fieldLink "DotConsole$LineReader" 38 "DotConsole$LineReader" "nodeCount" "I" ∈ ax_T := ax_mem (by decide +kernel) rfl
theorem kf_LineReader_82 : Cond.fieldLink "DotConsole$LineReader" 82 "DotConsole$LineReader" "levelCount" "I" ∈ ax_T := ax_mem (by decide +kernel) rfl
theorem kf_LineReader_42 : Cond.fieldLink "DotConsole$LineReader" 42 "DotConsole$LineReader" "mostLevels" "I" ∈ ax_T := ax_mem (by decide +kernel) rfl
theorem kf_LineReader_85 : Cond.fieldLink "DotConsole$LineReader" 85 "DotConsole$LineReader" "waitingCount" "I" ∈ ax_T := ax_mem (by decide +kernel) rfl
def J_LineReader_clear (N : Nat) (σ : St) : Option St :=
  ax_bindV (J_Names_forgetSeen N σ) (fun σ1 =>
  ax_let (sF σ1 7 0) (fun σ2 =>
  ax_let (sF σ2 9 0) (fun σ3 =>
  ax_let (sF σ3 10 0) (fun σ4 =>
  ax_let (sF σ4 11 0) (fun σ5 =>
  ax_let (sF σ5 12 0) (fun σ6 =>
  ax_let (sF σ6 13 0) (fun σ7 =>
  some σ7)))))))
set_option maxHeartbeats 1000000 in
theorem c_LineReader_clear {N : Nat} {g : ax_G} {σ : St} {s9 : St} (hJ : J_LineReader_clear N σ = some s9) : ax_CV μ_LineReader_clear g y_LineReader_clear (wC g) [.ref (g.2.1 9)] σ (ax_eqV s9) := by
  refine ax_CV.of (plainFor_of_name rfl) rfl (Nat.le_of_ble_eq_true rfl) (fun x A _ => ?_)
  show AW x μ_LineReader_clear g A (wC g) (0, 0) (ax_QV x μ_LineReader_clear g A (wC g) (ax_eqV s9)) 0 [(0, .ref (g.2.1 9))] [] σ
  rw [J_LineReader_clear] at hJ
  refine aw_aload_n (n := 1) d_LineReader_clear_0 rfl rfl 0 rfl ?_
  refine gf_LineReader_names (n := 4) d_LineReader_clear_1 rfl kf_LineReader_34 ?_
  obtain ⟨σ1, hc1, hJ⟩ := ax_bindVE hJ
  refine aw_callVv (n := 7) (c_Names_forgetSeen hc1) 7 rfl rfl Y_Names_forgetSeen km_LineReader_74 (by decide) (by decide) rfl rfl (Nat.le_of_ble_eq_true rfl) d_LineReader_clear_4 rfl (fun s9 hp => ?_)
  subst hp
  refine aw_aload_n (n := 8) d_LineReader_clear_7 rfl rfl 0 rfl ?_
  refine aw_iconst (n := 9) (v := 0) d_LineReader_clear_8 rfl (by decide) ?_
  refine pf_LineReader_at (n := 12) d_LineReader_clear_9 rfl kf_LineReader_50 ?_
  obtain ⟨σ2, eσ2, hJ⟩ := ax_letE hJ
  refine aw_let eσ2 ?_
  refine aw_aload_n (n := 13) d_LineReader_clear_12 rfl rfl 0 rfl ?_
  refine aw_iconst (n := 14) (v := 0) d_LineReader_clear_13 rfl (by decide) ?_
  refine pf_LineReader_target (n := 17) d_LineReader_clear_14 rfl kf_LineReader_79 ?_
  obtain ⟨σ3, eσ3, hJ⟩ := ax_letE hJ
  refine aw_let eσ3 ?_
  refine aw_aload_n (n := 18) d_LineReader_clear_17 rfl rfl 0 rfl ?_
  refine aw_iconst (n := 19) (v := 0) d_LineReader_clear_18 rfl (by decide) ?_
  refine pf_LineReader_nodeCount (n := 22) d_LineReader_clear_19 rfl kf_LineReader_38 ?_
  obtain ⟨σ4, eσ4, hJ⟩ := ax_letE hJ
  refine aw_let eσ4 ?_
  refine aw_aload_n (n := 23) d_LineReader_clear_22 rfl rfl 0 rfl ?_
  refine aw_iconst (n := 24) (v := 0) d_LineReader_clear_23 rfl (by decide) ?_
  refine pf_LineReader_levelCount (n := 27) d_LineReader_clear_24 rfl kf_LineReader_82 ?_
  obtain ⟨σ5, eσ5, hJ⟩ := ax_letE hJ
  refine aw_let eσ5 ?_
  refine aw_aload_n (n := 28) d_LineReader_clear_27 rfl rfl 0 rfl ?_
  refine aw_iconst (n := 29) (v := 0) d_LineReader_clear_28 rfl (by decide) ?_
  refine pf_LineReader_mostLevels (n := 32) d_LineReader_clear_29 rfl kf_LineReader_42 ?_
  obtain ⟨σ6, eσ6, hJ⟩ := ax_letE hJ
  refine aw_let eσ6 ?_
  refine aw_aload_n (n := 33) d_LineReader_clear_32 rfl rfl 0 rfl ?_
  refine aw_iconst (n := 34) (v := 0) d_LineReader_clear_33 rfl (by decide) ?_
  refine pf_LineReader_waitingCount (n := 37) d_LineReader_clear_34 rfl kf_LineReader_85 ?_
  obtain ⟨σ7, eσ7, hJ⟩ := ax_letE hJ
  refine aw_let eσ7 ?_
  exact aw_vret d_LineReader_clear_37 rfl (ax_retV hJ)
abbrev b_Con_rankOf : ByteArray := prog_1_method_17_code
def y_Con_rankOf : MethodName := ⟨"DotConsole", "rankOf", "(I)I"⟩
theorem d_Con_rankOf_0 : decode b_Con_rankOf 0 = .ok (.iload_n 0, 1) := by decide +kernel
theorem d_Con_rankOf_1 : decode b_Con_rankOf 1 = .ok (.lookupswitch 128 #[(21, 125), (33, 125), (37, 123), (38, 117), (42, 123), (43, 121), (45, 121), (47, 123), (60, 119), (61, 119), (62, 119), (64, 125), (124, 115)], 115) := by decide +kernel
theorem d_Con_rankOf_116 : decode b_Con_rankOf 116 = .ok (.iconst 1, 1) := by decide +kernel
theorem d_Con_rankOf_117 : decode b_Con_rankOf 117 = .ok (.ireturn, 1) := by decide +kernel
theorem d_Con_rankOf_118 : decode b_Con_rankOf 118 = .ok (.iconst 2, 1) := by decide +kernel
theorem d_Con_rankOf_119 : decode b_Con_rankOf 119 = .ok (.ireturn, 1) := by decide +kernel
theorem d_Con_rankOf_120 : decode b_Con_rankOf 120 = .ok (.iconst 3, 1) := by decide +kernel
theorem d_Con_rankOf_121 : decode b_Con_rankOf 121 = .ok (.ireturn, 1) := by decide +kernel
theorem d_Con_rankOf_122 : decode b_Con_rankOf 122 = .ok (.iconst 4, 1) := by decide +kernel
theorem d_Con_rankOf_123 : decode b_Con_rankOf 123 = .ok (.ireturn, 1) := by decide +kernel
theorem d_Con_rankOf_124 : decode b_Con_rankOf 124 = .ok (.iconst 5, 1) := by decide +kernel
theorem d_Con_rankOf_125 : decode b_Con_rankOf 125 = .ok (.ireturn, 1) := by decide +kernel
theorem d_Con_rankOf_126 : decode b_Con_rankOf 126 = .ok (.bipush 6, 2) := by decide +kernel
theorem d_Con_rankOf_128 : decode b_Con_rankOf 128 = .ok (.ireturn, 1) := by decide +kernel
theorem d_Con_rankOf_129 : decode b_Con_rankOf 129 = .ok (.iconst 0, 1) := by decide +kernel
theorem d_Con_rankOf_130 : decode b_Con_rankOf 130 = .ok (.ireturn, 1) := by decide +kernel
def μ_Con_rankOf : ax_M := (b_Con_rankOf, 1, "DotConsole", (some .int), 0, 0, 0, 0)
theorem Y_Con_rankOf : ax_YS μ_Con_rankOf y_Con_rankOf 1 := ⟨⟨ax_mem (by decide +kernel) rfl, ax_mem (by decide +kernel) rfl, by decide, by decide, by decide +kernel⟩, ax_mem (by decide +kernel) rfl⟩
def J_Con_rankOf (N : Nat) (a0 : Int32) (σ : St) : Option (Int32 × St) :=
  (if a0 = 21 then some (6, σ)
  else (if a0 = 33 then some (6, σ)
  else (if a0 = 37 then some (5, σ)
  else (if a0 = 38 then some (2, σ)
  else (if a0 = 42 then some (5, σ)
  else (if a0 = 43 then some (4, σ)
  else (if a0 = 45 then some (4, σ)
  else (if a0 = 47 then some (5, σ)
  else (if a0 = 60 then some (3, σ)
  else (if a0 = 61 then some (3, σ)
  else (if a0 = 62 then some (3, σ)
  else (if a0 = 64 then some (6, σ)
  else (if a0 = 124 then some (1, σ)
  else some (0, σ))))))))))))))
set_option maxHeartbeats 1000000 in
theorem c_Con_rankOf {N : Nat} {g : ax_G} {a0 : Int32} {σ : St} {r9 : Int32} {s9 : St} (hJ : J_Con_rankOf N a0 σ = some (r9, s9)) : ax_CI μ_Con_rankOf g y_Con_rankOf (wC g) [.int a0] σ (ax_eqI r9 s9) := by
  refine ax_CI.of (plainFor_of_name rfl) rfl (Nat.le_of_ble_eq_true rfl) (fun x A _ => ?_)
  show AW x μ_Con_rankOf g A (wC g) (0, 0) (ax_QI x μ_Con_rankOf g A (wC g) (ax_eqI r9 s9)) 0 [(0, .int a0)] [] σ
  rw [J_Con_rankOf] at hJ
  refine aw_iload_n (n := 1) d_Con_rankOf_0 rfl rfl 0 rfl ?_
  rcases ax_ifE hJ with ⟨c1, hJ⟩ | ⟨c1, hJ⟩
  · refine aw_lookup (t := 126) (off := 125) d_Con_rankOf_1 (by decide) (by first | (rw [c1]; done) | (rw [c1]; decide)) (by decide) ?_
    refine aw_bipush (n := 128) (v := 6) d_Con_rankOf_126 rfl (by decide) ?_
    exact aw_iret d_Con_rankOf_128 rfl (ax_ret hJ)
  rcases ax_ifE hJ with ⟨c2, hJ⟩ | ⟨c2, hJ⟩
  · refine aw_lookup (t := 126) (off := 125) d_Con_rankOf_1 (by decide) (by first | (rw [c2]; done) | (rw [c2]; decide)) (by decide) ?_
    refine aw_bipush (n := 128) (v := 6) d_Con_rankOf_126 rfl (by decide) ?_
    exact aw_iret d_Con_rankOf_128 rfl (ax_ret hJ)
  rcases ax_ifE hJ with ⟨c3, hJ⟩ | ⟨c3, hJ⟩
  · refine aw_lookup (t := 124) (off := 123) d_Con_rankOf_1 (by decide) (by first | (rw [c3]; done) | (rw [c3]; decide)) (by decide) ?_
    refine aw_iconst (n := 125) (v := 5) d_Con_rankOf_124 rfl (by decide) ?_
    exact aw_iret d_Con_rankOf_125 rfl (ax_ret hJ)
  rcases ax_ifE hJ with ⟨c4, hJ⟩ | ⟨c4, hJ⟩
  · refine aw_lookup (t := 118) (off := 117) d_Con_rankOf_1 (by decide) (by first | (rw [c4]; done) | (rw [c4]; decide)) (by decide) ?_
    refine aw_iconst (n := 119) (v := 2) d_Con_rankOf_118 rfl (by decide) ?_
    exact aw_iret d_Con_rankOf_119 rfl (ax_ret hJ)
  rcases ax_ifE hJ with ⟨c5, hJ⟩ | ⟨c5, hJ⟩
  · refine aw_lookup (t := 124) (off := 123) d_Con_rankOf_1 (by decide) (by first | (rw [c5]; done) | (rw [c5]; decide)) (by decide) ?_
    refine aw_iconst (n := 125) (v := 5) d_Con_rankOf_124 rfl (by decide) ?_
    exact aw_iret d_Con_rankOf_125 rfl (ax_ret hJ)
  rcases ax_ifE hJ with ⟨c6, hJ⟩ | ⟨c6, hJ⟩
  · refine aw_lookup (t := 122) (off := 121) d_Con_rankOf_1 (by decide) (by first | (rw [c6]; done) | (rw [c6]; decide)) (by decide) ?_
    refine aw_iconst (n := 123) (v := 4) d_Con_rankOf_122 rfl (by decide) ?_
    exact aw_iret d_Con_rankOf_123 rfl (ax_ret hJ)
  rcases ax_ifE hJ with ⟨c7, hJ⟩ | ⟨c7, hJ⟩
  · refine aw_lookup (t := 122) (off := 121) d_Con_rankOf_1 (by decide) (by first | (rw [c7]; done) | (rw [c7]; decide)) (by decide) ?_
    refine aw_iconst (n := 123) (v := 4) d_Con_rankOf_122 rfl (by decide) ?_
    exact aw_iret d_Con_rankOf_123 rfl (ax_ret hJ)
  rcases ax_ifE hJ with ⟨c8, hJ⟩ | ⟨c8, hJ⟩
  · refine aw_lookup (t := 124) (off := 123) d_Con_rankOf_1 (by decide) (by first | (rw [c8]; done) | (rw [c8]; decide)) (by decide) ?_
    refine aw_iconst (n := 125) (v := 5) d_Con_rankOf_124 rfl (by decide) ?_
    exact aw_iret d_Con_rankOf_125 rfl (ax_ret hJ)
  rcases ax_ifE hJ with ⟨c9, hJ⟩ | ⟨c9, hJ⟩
  · refine aw_lookup (t := 120) (off := 119) d_Con_rankOf_1 (by decide) (by first | (rw [c9]; done) | (rw [c9]; decide)) (by decide) ?_
    refine aw_iconst (n := 121) (v := 3) d_Con_rankOf_120 rfl (by decide) ?_
    exact aw_iret d_Con_rankOf_121 rfl (ax_ret hJ)
  rcases ax_ifE hJ with ⟨c10, hJ⟩ | ⟨c10, hJ⟩
  · refine aw_lookup (t := 120) (off := 119) d_Con_rankOf_1 (by decide) (by first | (rw [c10]; done) | (rw [c10]; decide)) (by decide) ?_
    refine aw_iconst (n := 121) (v := 3) d_Con_rankOf_120 rfl (by decide) ?_
    exact aw_iret d_Con_rankOf_121 rfl (ax_ret hJ)
  rcases ax_ifE hJ with ⟨c11, hJ⟩ | ⟨c11, hJ⟩
  · refine aw_lookup (t := 120) (off := 119) d_Con_rankOf_1 (by decide) (by first | (rw [c11]; done) | (rw [c11]; decide)) (by decide) ?_
    refine aw_iconst (n := 121) (v := 3) d_Con_rankOf_120 rfl (by decide) ?_
    exact aw_iret d_Con_rankOf_121 rfl (ax_ret hJ)
  rcases ax_ifE hJ with ⟨c12, hJ⟩ | ⟨c12, hJ⟩
  · refine aw_lookup (t := 126) (off := 125) d_Con_rankOf_1 (by decide) (by first | (rw [c12]; done) | (rw [c12]; decide)) (by decide) ?_
    refine aw_bipush (n := 128) (v := 6) d_Con_rankOf_126 rfl (by decide) ?_
    exact aw_iret d_Con_rankOf_128 rfl (ax_ret hJ)
  rcases ax_ifE hJ with ⟨c13, hJ⟩ | ⟨c13, hJ⟩
  · refine aw_lookup (t := 116) (off := 115) d_Con_rankOf_1 (by decide) (by first | (rw [c13]; done) | (rw [c13]; decide)) (by decide) ?_
    refine aw_iconst (n := 117) (v := 1) d_Con_rankOf_116 rfl (by decide) ?_
    exact aw_iret d_Con_rankOf_117 rfl (ax_ret hJ)
  refine aw_lookup (t := 129) (off := 128) d_Con_rankOf_1 (by decide) (show Op.lookupswitch.offset [(21, 125), (33, 125), (37, 123), (38, 117), (42, 123), (43, 121), (45, 121), (47, 123), (60, 119), (61, 119), (62, 119), (64, 125), (124, 115)] 128 _ = 128 by rw [lv_osw (a := 21) c1 (by decide), lv_osw (a := 33) c2 (by decide), lv_osw (a := 37) c3 (by decide), lv_osw (a := 38) c4 (by decide), lv_osw (a := 42) c5 (by decide), lv_osw (a := 43) c6 (by decide), lv_osw (a := 45) c7 (by decide), lv_osw (a := 47) c8 (by decide), lv_osw (a := 60) c9 (by decide), lv_osw (a := 61) c10 (by decide), lv_osw (a := 62) c11 (by decide), lv_osw (a := 64) c12 (by decide), lv_osw (a := 124) c13 (by decide)]; rfl) (by decide) ?_
  refine aw_iconst (n := 130) (v := 0) d_Con_rankOf_129 rfl (by decide) ?_
  exact aw_iret d_Con_rankOf_130 rfl (ax_ret hJ)
abbrev b_LineReader_emit : ByteArray := prog_2_method_18_code
def y_LineReader_emit : MethodName := ⟨"DotConsole$LineReader", "emit", "(III)V"⟩
theorem d_LineReader_emit_0 : decode b_LineReader_emit 0 = .ok (.aload_n 0, 1) := by decide +kernel
theorem d_LineReader_emit_1 : decode b_LineReader_emit 1 = .ok (.getfield 9, 3) := by decide +kernel
theorem d_LineReader_emit_4 : decode b_LineReader_emit 4 = .ok (.aload_n 0, 1) := by decide +kernel
theorem d_LineReader_emit_5 : decode b_LineReader_emit 5 = .ok (.getfield 38, 3) := by decide +kernel
theorem d_LineReader_emit_8 : decode b_LineReader_emit 8 = .ok (.iload_n 1, 1) := by decide +kernel
theorem d_LineReader_emit_9 : decode b_LineReader_emit 9 = .ok (.iastore, 1) := by decide +kernel
theorem d_LineReader_emit_10 : decode b_LineReader_emit 10 = .ok (.aload_n 0, 1) := by decide +kernel
theorem d_LineReader_emit_11 : decode b_LineReader_emit 11 = .ok (.getfield 15, 3) := by decide +kernel
theorem d_LineReader_emit_14 : decode b_LineReader_emit 14 = .ok (.aload_n 0, 1) := by decide +kernel
theorem d_LineReader_emit_15 : decode b_LineReader_emit 15 = .ok (.getfield 38, 3) := by decide +kernel
theorem d_LineReader_emit_18 : decode b_LineReader_emit 18 = .ok (.iload_n 2, 1) := by decide +kernel
theorem d_LineReader_emit_19 : decode b_LineReader_emit 19 = .ok (.iastore, 1) := by decide +kernel
theorem d_LineReader_emit_20 : decode b_LineReader_emit 20 = .ok (.aload_n 0, 1) := by decide +kernel
theorem d_LineReader_emit_21 : decode b_LineReader_emit 21 = .ok (.dup, 1) := by decide +kernel
theorem d_LineReader_emit_22 : decode b_LineReader_emit 22 = .ok (.getfield 38, 3) := by decide +kernel
theorem d_LineReader_emit_25 : decode b_LineReader_emit 25 = .ok (.iconst 1, 1) := by decide +kernel
theorem d_LineReader_emit_26 : decode b_LineReader_emit 26 = .ok (.iadd, 1) := by decide +kernel
theorem d_LineReader_emit_27 : decode b_LineReader_emit 27 = .ok (.putfield 38, 3) := by decide +kernel
theorem d_LineReader_emit_30 : decode b_LineReader_emit 30 = .ok (.iconst 0, 1) := by decide +kernel
theorem d_LineReader_emit_31 : decode b_LineReader_emit 31 = .ok (.istore 4, 2) := by decide +kernel
theorem d_LineReader_emit_33 : decode b_LineReader_emit 33 = .ok (.iconst 0, 1) := by decide +kernel
theorem d_LineReader_emit_34 : decode b_LineReader_emit 34 = .ok (.istore 5, 2) := by decide +kernel
theorem d_LineReader_emit_36 : decode b_LineReader_emit 36 = .ok (.iload 5, 2) := by decide +kernel
theorem d_LineReader_emit_38 : decode b_LineReader_emit 38 = .ok (.iload_n 3, 1) := by decide +kernel
theorem d_LineReader_emit_39 : decode b_LineReader_emit 39 = .ok (.if_icmp .ge 37, 3) := by decide +kernel
theorem d_LineReader_emit_42 : decode b_LineReader_emit 42 = .ok (.aload_n 0, 1) := by decide +kernel
theorem d_LineReader_emit_43 : decode b_LineReader_emit 43 = .ok (.dup, 1) := by decide +kernel
theorem d_LineReader_emit_44 : decode b_LineReader_emit 44 = .ok (.getfield 82, 3) := by decide +kernel
theorem d_LineReader_emit_47 : decode b_LineReader_emit 47 = .ok (.iconst 1, 1) := by decide +kernel
theorem d_LineReader_emit_48 : decode b_LineReader_emit 48 = .ok (.isub, 1) := by decide +kernel
theorem d_LineReader_emit_49 : decode b_LineReader_emit 49 = .ok (.putfield 82, 3) := by decide +kernel
theorem d_LineReader_emit_52 : decode b_LineReader_emit 52 = .ok (.iload 4, 2) := by decide +kernel
theorem d_LineReader_emit_54 : decode b_LineReader_emit 54 = .ok (.aload_n 0, 1) := by decide +kernel
theorem d_LineReader_emit_55 : decode b_LineReader_emit 55 = .ok (.getfield 18, 3) := by decide +kernel
theorem d_LineReader_emit_58 : decode b_LineReader_emit 58 = .ok (.aload_n 0, 1) := by decide +kernel
theorem d_LineReader_emit_59 : decode b_LineReader_emit 59 = .ok (.getfield 82, 3) := by decide +kernel
theorem d_LineReader_emit_62 : decode b_LineReader_emit 62 = .ok (.iaload, 1) := by decide +kernel
theorem d_LineReader_emit_63 : decode b_LineReader_emit 63 = .ok (.iconst 1, 1) := by decide +kernel
theorem d_LineReader_emit_64 : decode b_LineReader_emit 64 = .ok (.iadd, 1) := by decide +kernel
theorem d_LineReader_emit_65 : decode b_LineReader_emit 65 = .ok (.invokestatic 140, 3) := by decide +kernel
theorem d_LineReader_emit_68 : decode b_LineReader_emit 68 = .ok (.istore 4, 2) := by decide +kernel
theorem d_LineReader_emit_70 : decode b_LineReader_emit 70 = .ok (.iinc 5 1, 3) := by decide +kernel
theorem d_LineReader_emit_73 : decode b_LineReader_emit 73 = .ok (.goto (-37), 3) := by decide +kernel
theorem d_LineReader_emit_76 : decode b_LineReader_emit 76 = .ok (.aload_n 0, 1) := by decide +kernel
theorem d_LineReader_emit_77 : decode b_LineReader_emit 77 = .ok (.getfield 18, 3) := by decide +kernel
theorem d_LineReader_emit_80 : decode b_LineReader_emit 80 = .ok (.aload_n 0, 1) := by decide +kernel
theorem d_LineReader_emit_81 : decode b_LineReader_emit 81 = .ok (.getfield 82, 3) := by decide +kernel
theorem d_LineReader_emit_84 : decode b_LineReader_emit 84 = .ok (.iload 4, 2) := by decide +kernel
theorem d_LineReader_emit_86 : decode b_LineReader_emit 86 = .ok (.iastore, 1) := by decide +kernel
theorem d_LineReader_emit_87 : decode b_LineReader_emit 87 = .ok (.aload_n 0, 1) := by decide +kernel
theorem d_LineReader_emit_88 : decode b_LineReader_emit 88 = .ok (.dup, 1) := by decide +kernel
theorem d_LineReader_emit_89 : decode b_LineReader_emit 89 = .ok (.getfield 82, 3) := by decide +kernel
theorem d_LineReader_emit_92 : decode b_LineReader_emit 92 = .ok (.iconst 1, 1) := by decide +kernel
theorem d_LineReader_emit_93 : decode b_LineReader_emit 93 = .ok (.iadd, 1) := by decide +kernel
theorem d_LineReader_emit_94 : decode b_LineReader_emit 94 = .ok (.putfield 82, 3) := by decide +kernel
theorem d_LineReader_emit_97 : decode b_LineReader_emit 97 = .ok (.aload_n 0, 1) := by decide +kernel
theorem d_LineReader_emit_98 : decode b_LineReader_emit 98 = .ok (.aload_n 0, 1) := by decide +kernel
theorem d_LineReader_emit_99 : decode b_LineReader_emit 99 = .ok (.getfield 42, 3) := by decide +kernel
theorem d_LineReader_emit_102 : decode b_LineReader_emit 102 = .ok (.iload 4, 2) := by decide +kernel
theorem d_LineReader_emit_104 : decode b_LineReader_emit 104 = .ok (.invokestatic 140, 3) := by decide +kernel
theorem d_LineReader_emit_107 : decode b_LineReader_emit 107 = .ok (.putfield 42, 3) := by decide +kernel
theorem d_LineReader_emit_110 : decode b_LineReader_emit 110 = .ok (.aload_n 0, 1) := by decide +kernel
theorem d_LineReader_emit_111 : decode b_LineReader_emit 111 = .ok (.iconst 0, 1) := by decide +kernel
theorem d_LineReader_emit_112 : decode b_LineReader_emit 112 = .ok (.putfield 98, 3) := by decide +kernel
theorem d_LineReader_emit_115 : decode b_LineReader_emit 115 = .ok (.return_, 1) := by decide +kernel
def μ_LineReader_emit : ax_M := (b_LineReader_emit, 6, "DotConsole$LineReader", none, 1, 21, 0, 0)
theorem Y_LineReader_emit : ax_YV μ_LineReader_emit y_LineReader_emit 3 := ⟨⟨ax_mem (by decide +kernel) rfl, ax_mem (by decide +kernel) rfl, by decide, by decide, by decide +kernel⟩, ax_mem (by decide +kernel) rfl, ax_mem (by decide +kernel) rfl⟩
theorem kf_LineReader_18 : Cond.fieldLink "DotConsole$LineReader" 18 "DotConsole$LineReader" "levels" "[I" ∈ ax_T := ax_mem (by decide +kernel) rfl
theorem km_LineReader_140 : Cond.methodLink "DotConsole$LineReader" 140 ⟨"java/lang/Math", "max", "(II)I"⟩ ∈ ax_T := ax_mem (by decide +kernel) rfl
theorem kf_LineReader_98 : Cond.fieldLink "DotConsole$LineReader" 98 "DotConsole$LineReader" "wantsPart" "Z" ∈ ax_T := ax_mem (by decide +kernel) rfl
theorem kf_LineReader_9 : Cond.fieldLink "DotConsole$LineReader" 9 "DotConsole$LineReader" "kinds" "[I" ∈ ax_T := ax_mem (by decide +kernel) rfl
theorem kf_LineReader_15 : Cond.fieldLink "DotConsole$LineReader" 15 "DotConsole$LineReader" "operands" "[I" ∈ ax_T := ax_mem (by decide +kernel) rfl
def J_LineReader_emit_36 (N : Nat) : Nat → Int32 → Int32 → Int32 → St → Option St
  | 0, _, _, _, _ => none
  | n + 1, l3, l4, l5, σ => (if l3 ≤ l5 then
  (if (inB (σ.1 11) 48) = true then ax_let (sA σ 8 (σ.1 11).toNatClampNeg l4) (fun σ4 =>
  ax_let (sF σ4 11 ((σ4.1 11) + 1)) (fun σ5 =>
  ax_bind (J_CMath_max N (σ5.1 12) l4 σ5) (fun r1 σ6 =>
  ax_let (sF σ6 12 r1) (fun σ7 =>
  ax_let (sF σ7 15 0) (fun σ8 =>
  some σ8))))) else none)
  else ax_let (sF σ 11 ((σ.1 11) - 1)) (fun σ9 =>
  (if (inB (σ9.1 11) 48) = true then ax_bind (J_CMath_max N l4 ((σ9.2 8 (σ9.1 11).toNatClampNeg) + 1) σ9) (fun r2 σ10 =>
  ax_let ((l5 + 1) : Int32) (fun v1 =>
  J_LineReader_emit_36 N n l3 r2 v1 σ10)) else none)))
def J_LineReader_emit (N : Nat) (a1 : Int32) (a2 : Int32) (a3 : Int32) (σ : St) : Option St :=
  (if (inB (σ.1 10) 48) = true then ax_let (sA σ 6 (σ.1 10).toNatClampNeg a1) (fun σ1 =>
  (if (inB (σ1.1 10) 48) = true then ax_let (sA σ1 7 (σ1.1 10).toNatClampNeg a2) (fun σ2 =>
  ax_let (sF σ2 10 ((σ2.1 10) + 1)) (fun σ3 =>
  J_LineReader_emit_36 N N a3 0 0 σ3)) else none)) else none)
set_option maxHeartbeats 1000000 in
theorem t_LineReader_emit_36 {N : Nat} {g : ax_G} {s9 : St} (x : ax_X) (A : Nat → Prop) : ∀ (n : Nat) (l3 : Int32) (l4 : Int32) (l5 : Int32) (σ : St), J_LineReader_emit_36 N n l3 l4 l5 σ = some s9 → AW x μ_LineReader_emit g A (wC g) (0, 0) (ax_QV x μ_LineReader_emit g A (wC g) (ax_eqV s9)) 36 [(0, .ref (g.2.1 9)), (3, .int l3), (4, .int l4), (5, .int l5)] [] σ := by
  intro n
  induction n with
  | zero => intro l3 l4 l5 σ hJ; rw [J_LineReader_emit_36] at hJ; cases hJ
  | succ n ih =>
    intro l3 l4 l5 σ hJ
    rw [J_LineReader_emit_36] at hJ
    refine aw_iload (n := 38) d_LineReader_emit_36 rfl 3 rfl ?_
    refine aw_iload_n (n := 39) d_LineReader_emit_38 rfl rfl 1 rfl ?_
    refine aw_icmp_ge (n := 42) (t := 76) d_LineReader_emit_39 rfl (by decide) (fun c1 => ?_) (fun c1 => ?_)
    · rw [if_pos c1] at hJ
      refine aw_aload_n (n := 77) d_LineReader_emit_76 rfl rfl 0 rfl ?_
      refine gf_LineReader_levels (n := 80) d_LineReader_emit_77 rfl kf_LineReader_18 ?_
      refine aw_aload_n (n := 81) d_LineReader_emit_80 rfl rfl 0 rfl ?_
      refine gf_LineReader_levelCount (n := 84) d_LineReader_emit_81 rfl kf_LineReader_82 ?_
      refine aw_iload (n := 86) d_LineReader_emit_84 rfl 2 rfl ?_
      obtain ⟨h3, hJ⟩ := ax_need hJ
      refine as_12 (n := 87) d_LineReader_emit_86 rfl h3 ?_
      obtain ⟨σ4, eσ4, hJ⟩ := ax_letE hJ
      refine aw_let eσ4 ?_
      refine aw_aload_n (n := 88) d_LineReader_emit_87 rfl rfl 0 rfl ?_
      refine aw_dup (n := 89) d_LineReader_emit_88 rfl rfl ?_
      refine gf_LineReader_levelCount (n := 92) d_LineReader_emit_89 rfl kf_LineReader_82 ?_
      refine aw_iconst (n := 93) (v := 1) d_LineReader_emit_92 rfl (by decide) ?_
      refine aw_iadd (n := 94) d_LineReader_emit_93 rfl ?_
      refine pf_LineReader_levelCount (n := 97) d_LineReader_emit_94 rfl kf_LineReader_82 ?_
      obtain ⟨σ5, eσ5, hJ⟩ := ax_letE hJ
      refine aw_let eσ5 ?_
      refine aw_aload_n (n := 98) d_LineReader_emit_97 rfl rfl 0 rfl ?_
      refine aw_aload_n (n := 99) d_LineReader_emit_98 rfl rfl 0 rfl ?_
      refine gf_LineReader_mostLevels (n := 102) d_LineReader_emit_99 rfl kf_LineReader_42 ?_
      refine aw_iload (n := 104) d_LineReader_emit_102 rfl 2 rfl ?_
      obtain ⟨r1, σ6, hc1, hJ⟩ := ax_bindE hJ
      refine aw_callSi (n := 107) (c_CMath_max hc1) Y_CMath_max km_LineReader_140 (by decide) (by decide) rfl rfl (Nat.le_of_ble_eq_true rfl) d_LineReader_emit_104 rfl (fun r9 s9 hp => ?_)
      obtain ⟨rfl, rfl⟩ := hp
      refine pf_LineReader_mostLevels (n := 110) d_LineReader_emit_107 rfl kf_LineReader_42 ?_
      obtain ⟨σ7, eσ7, hJ⟩ := ax_letE hJ
      refine aw_let eσ7 ?_
      refine aw_aload_n (n := 111) d_LineReader_emit_110 rfl rfl 0 rfl ?_
      refine aw_iconst (n := 112) (v := 0) d_LineReader_emit_111 rfl (by decide) ?_
      refine pf_LineReader_wantsPart (n := 115) d_LineReader_emit_112 rfl kf_LineReader_98 rfl rfl ?_
      obtain ⟨σ8, eσ8, hJ⟩ := ax_letE hJ
      refine aw_let eσ8 ?_
      exact aw_vret d_LineReader_emit_115 rfl (ax_retV hJ)
    · rw [if_neg c1] at hJ
      refine aw_aload_n (n := 43) d_LineReader_emit_42 rfl rfl 0 rfl ?_
      refine aw_dup (n := 44) d_LineReader_emit_43 rfl rfl ?_
      refine gf_LineReader_levelCount (n := 47) d_LineReader_emit_44 rfl kf_LineReader_82 ?_
      refine aw_iconst (n := 48) (v := 1) d_LineReader_emit_47 rfl (by decide) ?_
      refine aw_isub (n := 49) d_LineReader_emit_48 rfl ?_
      refine pf_LineReader_levelCount (n := 52) d_LineReader_emit_49 rfl kf_LineReader_82 ?_
      obtain ⟨σ9, eσ9, hJ⟩ := ax_letE hJ
      refine aw_let eσ9 ?_
      refine aw_iload (n := 54) d_LineReader_emit_52 rfl 2 rfl ?_
      refine aw_aload_n (n := 55) d_LineReader_emit_54 rfl rfl 0 rfl ?_
      refine gf_LineReader_levels (n := 58) d_LineReader_emit_55 rfl kf_LineReader_18 ?_
      refine aw_aload_n (n := 59) d_LineReader_emit_58 rfl rfl 0 rfl ?_
      refine gf_LineReader_levelCount (n := 62) d_LineReader_emit_59 rfl kf_LineReader_82 ?_
      obtain ⟨h4, hJ⟩ := ax_need hJ
      refine al_12 (n := 63) d_LineReader_emit_62 rfl h4 ?_
      refine aw_iconst (n := 64) (v := 1) d_LineReader_emit_63 rfl (by decide) ?_
      refine aw_iadd (n := 65) d_LineReader_emit_64 rfl ?_
      obtain ⟨r2, σ10, hc2, hJ⟩ := ax_bindE hJ
      refine aw_callSi (n := 68) (c_CMath_max hc2) Y_CMath_max km_LineReader_140 (by decide) (by decide) rfl rfl (Nat.le_of_ble_eq_true rfl) d_LineReader_emit_65 rfl (fun r9 s9 hp => ?_)
      obtain ⟨rfl, rfl⟩ := hp
      refine aw_istore (n := 70) d_LineReader_emit_68 rfl (by decide) rfl ?_
      obtain ⟨v1, ev1, hJ⟩ := ax_letE hJ
      refine aw_iinc (n := 73) (j := 3) (v := v1) d_LineReader_emit_70 rfl rfl (ev1) (by decide) rfl ?_
      refine aw_goto (t := 36) d_LineReader_emit_73 (by decide) ?_
      refine aw_sub [2, 3, 1, 0] rfl ?_
      exact ih _ _ _ _ hJ
set_option maxHeartbeats 1000000 in
theorem c_LineReader_emit {N : Nat} {g : ax_G} {a1 : Int32} {a2 : Int32} {a3 : Int32} {σ : St} {s9 : St} (hJ : J_LineReader_emit N a1 a2 a3 σ = some s9) : ax_CV μ_LineReader_emit g y_LineReader_emit (wC g) [.ref (g.2.1 9), .int a1, .int a2, .int a3] σ (ax_eqV s9) := by
  refine ax_CV.of (plainFor_of_name rfl) rfl (Nat.le_of_ble_eq_true rfl) (fun x A _ => ?_)
  show AW x μ_LineReader_emit g A (wC g) (0, 0) (ax_QV x μ_LineReader_emit g A (wC g) (ax_eqV s9)) 0 [(0, .ref (g.2.1 9)), (1, .int a1), (2, .int a2), (3, .int a3)] [] σ
  rw [J_LineReader_emit] at hJ
  refine aw_aload_n (n := 1) d_LineReader_emit_0 rfl rfl 0 rfl ?_
  refine gf_LineReader_kinds (n := 4) d_LineReader_emit_1 rfl kf_LineReader_9 ?_
  refine aw_aload_n (n := 5) d_LineReader_emit_4 rfl rfl 0 rfl ?_
  refine gf_LineReader_nodeCount (n := 8) d_LineReader_emit_5 rfl kf_LineReader_38 ?_
  refine aw_iload_n (n := 9) d_LineReader_emit_8 rfl rfl 1 rfl ?_
  obtain ⟨h1, hJ⟩ := ax_need hJ
  refine as_10 (n := 10) d_LineReader_emit_9 rfl h1 ?_
  obtain ⟨σ1, eσ1, hJ⟩ := ax_letE hJ
  refine aw_let eσ1 ?_
  refine aw_aload_n (n := 11) d_LineReader_emit_10 rfl rfl 0 rfl ?_
  refine gf_LineReader_operands (n := 14) d_LineReader_emit_11 rfl kf_LineReader_15 ?_
  refine aw_aload_n (n := 15) d_LineReader_emit_14 rfl rfl 0 rfl ?_
  refine gf_LineReader_nodeCount (n := 18) d_LineReader_emit_15 rfl kf_LineReader_38 ?_
  refine aw_iload_n (n := 19) d_LineReader_emit_18 rfl rfl 2 rfl ?_
  obtain ⟨h2, hJ⟩ := ax_need hJ
  refine as_11 (n := 20) d_LineReader_emit_19 rfl h2 ?_
  obtain ⟨σ2, eσ2, hJ⟩ := ax_letE hJ
  refine aw_let eσ2 ?_
  refine aw_aload_n (n := 21) d_LineReader_emit_20 rfl rfl 0 rfl ?_
  refine aw_dup (n := 22) d_LineReader_emit_21 rfl rfl ?_
  refine gf_LineReader_nodeCount (n := 25) d_LineReader_emit_22 rfl kf_LineReader_38 ?_
  refine aw_iconst (n := 26) (v := 1) d_LineReader_emit_25 rfl (by decide) ?_
  refine aw_iadd (n := 27) d_LineReader_emit_26 rfl ?_
  refine pf_LineReader_nodeCount (n := 30) d_LineReader_emit_27 rfl kf_LineReader_38 ?_
  obtain ⟨σ3, eσ3, hJ⟩ := ax_letE hJ
  refine aw_let eσ3 ?_
  refine aw_iconst (n := 31) (v := 0) d_LineReader_emit_30 rfl (by decide) ?_
  refine aw_istore (n := 33) d_LineReader_emit_31 rfl (by decide) rfl ?_
  refine aw_iconst (n := 34) (v := 0) d_LineReader_emit_33 rfl (by decide) ?_
  refine aw_istore (n := 36) d_LineReader_emit_34 rfl (by decide) rfl ?_
  refine aw_sub [2, 5, 1, 0] rfl ?_
  exact t_LineReader_emit_36 x A N _ _ _ _ hJ
