abbrev b_Tokens_init : ByteArray := prog_8_method_1_code
def y_Tokens_init : MethodName := ⟨"DotConsole$Tokens", "<init>", "()V"⟩
theorem d_Tokens_init_0 : decode b_Tokens_init 0 = .ok (.aload_n 0, 1) := by decide +kernel
theorem d_Tokens_init_1 : decode b_Tokens_init 1 = .ok (.invokespecial 3, 3) := by decide +kernel
theorem d_Tokens_init_4 : decode b_Tokens_init 4 = .ok (.aload_n 0, 1) := by decide +kernel
theorem d_Tokens_init_5 : decode b_Tokens_init 5 = .ok (.bipush 17, 2) := by decide +kernel
theorem d_Tokens_init_7 : decode b_Tokens_init 7 = .ok (.newarray .int, 2) := by decide +kernel
theorem d_Tokens_init_9 : decode b_Tokens_init 9 = .ok (.putfield 9, 3) := by decide +kernel
theorem d_Tokens_init_12 : decode b_Tokens_init 12 = .ok (.aload_n 0, 1) := by decide +kernel
theorem d_Tokens_init_13 : decode b_Tokens_init 13 = .ok (.bipush 48, 2) := by decide +kernel
theorem d_Tokens_init_15 : decode b_Tokens_init 15 = .ok (.newarray .char, 2) := by decide +kernel
theorem d_Tokens_init_17 : decode b_Tokens_init 17 = .ok (.putfield 15, 3) := by decide +kernel
theorem d_Tokens_init_20 : decode b_Tokens_init 20 = .ok (.aload_n 0, 1) := by decide +kernel
theorem d_Tokens_init_21 : decode b_Tokens_init 21 = .ok (.bipush 49, 2) := by decide +kernel
theorem d_Tokens_init_23 : decode b_Tokens_init 23 = .ok (.newarray .int, 2) := by decide +kernel
theorem d_Tokens_init_25 : decode b_Tokens_init 25 = .ok (.putfield 19, 3) := by decide +kernel
theorem d_Tokens_init_28 : decode b_Tokens_init 28 = .ok (.aload_n 0, 1) := by decide +kernel
theorem d_Tokens_init_29 : decode b_Tokens_init 29 = .ok (.bipush 49, 2) := by decide +kernel
theorem d_Tokens_init_31 : decode b_Tokens_init 31 = .ok (.newarray .int, 2) := by decide +kernel
theorem d_Tokens_init_33 : decode b_Tokens_init 33 = .ok (.putfield 22, 3) := by decide +kernel
theorem d_Tokens_init_36 : decode b_Tokens_init 36 = .ok (.aload_n 0, 1) := by decide +kernel
theorem d_Tokens_init_37 : decode b_Tokens_init 37 = .ok (.bipush 49, 2) := by decide +kernel
theorem d_Tokens_init_39 : decode b_Tokens_init 39 = .ok (.newarray .int, 2) := by decide +kernel
theorem d_Tokens_init_41 : decode b_Tokens_init 41 = .ok (.putfield 25, 3) := by decide +kernel
theorem d_Tokens_init_44 : decode b_Tokens_init 44 = .ok (.iconst 0, 1) := by decide +kernel
theorem d_Tokens_init_45 : decode b_Tokens_init 45 = .ok (.istore_n 1, 1) := by decide +kernel
theorem d_Tokens_init_46 : decode b_Tokens_init 46 = .ok (.iload_n 1, 1) := by decide +kernel
theorem d_Tokens_init_47 : decode b_Tokens_init 47 = .ok (.aload_n 0, 1) := by decide +kernel
theorem d_Tokens_init_48 : decode b_Tokens_init 48 = .ok (.getfield 9, 3) := by decide +kernel
theorem d_Tokens_init_51 : decode b_Tokens_init 51 = .ok (.arraylength, 1) := by decide +kernel
theorem d_Tokens_init_52 : decode b_Tokens_init 52 = .ok (.bipush 6, 2) := by decide +kernel
theorem d_Tokens_init_54 : decode b_Tokens_init 54 = .ok (.imul, 1) := by decide +kernel
theorem d_Tokens_init_55 : decode b_Tokens_init 55 = .ok (.if_icmp .ge 36, 3) := by decide +kernel
theorem d_Tokens_init_58 : decode b_Tokens_init 58 = .ok (.aload_n 0, 1) := by decide +kernel
theorem d_Tokens_init_59 : decode b_Tokens_init 59 = .ok (.getfield 9, 3) := by decide +kernel
theorem d_Tokens_init_62 : decode b_Tokens_init 62 = .ok (.iload_n 1, 1) := by decide +kernel
theorem d_Tokens_init_63 : decode b_Tokens_init 63 = .ok (.bipush 6, 2) := by decide +kernel
theorem d_Tokens_init_65 : decode b_Tokens_init 65 = .ok (.idiv, 1) := by decide +kernel
theorem d_Tokens_init_66 : decode b_Tokens_init 66 = .ok (.aload_n 0, 1) := by decide +kernel
theorem d_Tokens_init_67 : decode b_Tokens_init 67 = .ok (.getfield 9, 3) := by decide +kernel
theorem d_Tokens_init_70 : decode b_Tokens_init 70 = .ok (.iload_n 1, 1) := by decide +kernel
theorem d_Tokens_init_71 : decode b_Tokens_init 71 = .ok (.bipush 6, 2) := by decide +kernel
theorem d_Tokens_init_73 : decode b_Tokens_init 73 = .ok (.idiv, 1) := by decide +kernel
theorem d_Tokens_init_74 : decode b_Tokens_init 74 = .ok (.iaload, 1) := by decide +kernel
theorem d_Tokens_init_75 : decode b_Tokens_init 75 = .ok (.ldc 28, 2) := by decide +kernel
theorem d_Tokens_init_77 : decode b_Tokens_init 77 = .ok (.iload_n 1, 1) := by decide +kernel
theorem d_Tokens_init_78 : decode b_Tokens_init 78 = .ok (.invokevirtual 30, 3) := by decide +kernel
theorem d_Tokens_init_81 : decode b_Tokens_init 81 = .ok (.invokestatic 36, 3) := by decide +kernel
theorem d_Tokens_init_84 : decode b_Tokens_init 84 = .ok (.iastore, 1) := by decide +kernel
theorem d_Tokens_init_85 : decode b_Tokens_init 85 = .ok (.iinc 1 1, 3) := by decide +kernel
theorem d_Tokens_init_88 : decode b_Tokens_init 88 = .ok (.goto (-42), 3) := by decide +kernel
theorem d_Tokens_init_91 : decode b_Tokens_init 91 = .ok (.return_, 1) := by decide +kernel
def μ_Tokens_init : ax_M := (b_Tokens_init, 2, "DotConsole$Tokens", none, 4, 85, 5, 212)
theorem YI_Tokens : ax_Y μ_Tokens_init y_Tokens_init 0 := ⟨ax_mem (by decide +kernel) rfl, ax_mem (by decide +kernel) rfl, by decide, by decide, by decide +kernel⟩
theorem km_Tokens_30 : Cond.methodLink "DotConsole$Tokens" 30 ⟨"java/lang/String", "charAt", "(I)C"⟩ ∈ ax_T := ax_mem (by decide +kernel) rfl
theorem km_Tokens_3 : Cond.methodLink "DotConsole$Tokens" 3 objectInit ∈ ax_T := ax_mem (by decide +kernel) rfl
def J_Tokens_init_46 (N : Nat) (K91 : St → Option St) : Nat → Int32 → St → Option St
  | 0, _, _ => none
  | n + 1, l1, σ => (if (17 * 6) ≤ l1 then
  K91 σ
  else (if (inB (l1 / 6) 17) = true then ax_bind (J_TString_charAt_X0 N l1 σ) (fun r1 σ1 =>
  ax_bind (J_TTokens_withLetter N (σ.2 0 (l1 / 6).toNatClampNeg) r1 σ1) (fun r2 σ2 =>
  (if (inB (l1 / 6) 17) = true then ax_let (sA σ2 0 (l1 / 6).toNatClampNeg r2) (fun σ3 =>
  ax_let ((l1 + 1) : Int32) (fun v1 =>
  J_Tokens_init_46 N K91 n v1 σ3)) else none))) else none))
set_option maxHeartbeats 1000000 in
theorem t_Tokens_init_46 {N : Nat} {g : ax_G} {Q : State → Prop} {s9 : St} (x : ax_X) (A : Nat → Prop) {K91 : St → Option St} (hK91 : ∀ (σ : St), K91 σ = some s9 → AW x μ_Tokens_init g A (wT g) (5, 212) Q 91 [] [] σ) : ∀ (n : Nat) (l1 : Int32) (σ : St), J_Tokens_init_46 N K91 n l1 σ = some s9 → AW x μ_Tokens_init g A (wT g) (5, 212) Q 46 [(0, .ref (g.2.1 0)), (1, .int l1)] [] σ := by
  intro n
  induction n with
  | zero => intro l1 σ hJ; rw [J_Tokens_init_46] at hJ; cases hJ
  | succ n ih =>
    intro l1 σ hJ
    rw [J_Tokens_init_46] at hJ
    refine aw_iload_n (n := 47) d_Tokens_init_46 rfl rfl 1 rfl ?_
    refine aw_aload_n (n := 48) d_Tokens_init_47 rfl rfl 0 rfl ?_
    refine gfT_Tokens_wordKeys (n := 51) d_Tokens_init_48 rfl kf_Tokens_9 ?_
    refine anT_1 (n := 52) d_Tokens_init_51 rfl ?_
    refine aw_bipush (n := 54) (v := 6) d_Tokens_init_52 rfl (by decide) ?_
    refine aw_imul (n := 55) d_Tokens_init_54 rfl ?_
    refine aw_icmp_ge (n := 58) (t := 91) d_Tokens_init_55 rfl (by decide) (fun c1 => ?_) (fun c1 => ?_)
    · rw [if_pos c1] at hJ
      refine aw_sub [] rfl ?_
      exact hK91 _ hJ
    · rw [if_neg c1] at hJ
      refine aw_aload_n (n := 59) d_Tokens_init_58 rfl rfl 0 rfl ?_
      refine gfT_Tokens_wordKeys (n := 62) d_Tokens_init_59 rfl kf_Tokens_9 ?_
      refine aw_iload_n (n := 63) d_Tokens_init_62 rfl rfl 1 rfl ?_
      refine aw_bipush (n := 65) (v := 6) d_Tokens_init_63 rfl (by decide) ?_
      refine aw_idiv (n := 66) d_Tokens_init_65 rfl (by decide) ?_
      refine aw_aload_n (n := 67) d_Tokens_init_66 rfl rfl 0 rfl ?_
      refine gfT_Tokens_wordKeys (n := 70) d_Tokens_init_67 rfl kf_Tokens_9 ?_
      refine aw_iload_n (n := 71) d_Tokens_init_70 rfl rfl 1 rfl ?_
      refine aw_bipush (n := 73) (v := 6) d_Tokens_init_71 rfl (by decide) ?_
      refine aw_idiv (n := 74) d_Tokens_init_73 rfl (by decide) ?_
      obtain ⟨h1, hJ⟩ := ax_need hJ
      refine alT_1 (n := 75) d_Tokens_init_74 rfl h1 ?_
      refine ld_0 (n := 77) rfl d_Tokens_init_75 rfl ?_
      refine aw_iload_n (n := 78) d_Tokens_init_77 rfl rfl 1 rfl ?_
      obtain ⟨r1, σ1, hc1, hJ⟩ := ax_bindE hJ
      refine aw_callXi (n := 81) (c_TString_charAt_X0 hc1) rx_0 Y_TString_charAt_X0 km_Tokens_30 (by decide) (by decide) rfl rfl (Nat.le_of_ble_eq_true rfl) d_Tokens_init_78 rfl (fun r9 s9 hp => ?_)
      obtain ⟨rfl, rfl, hb1⟩ := hp
      obtain ⟨r2, σ2, hc2, hJ⟩ := ax_bindE hJ
      refine aw_callSi (n := 84) (c_TTokens_withLetter hc2) Y_TTokens_withLetter km_Tokens_36 (by decide) (by decide) rfl rfl (Nat.le_of_ble_eq_true rfl) d_Tokens_init_81 rfl (fun r9 s9 hp => ?_)
      obtain ⟨rfl, rfl⟩ := hp
      obtain ⟨h2, hJ⟩ := ax_need hJ
      refine asT_1 (n := 85) d_Tokens_init_84 rfl h2 ?_
      obtain ⟨σ3, eσ3, hJ⟩ := ax_letE hJ
      refine aw_let eσ3 ?_
      obtain ⟨v1, ev1, hJ⟩ := ax_letE hJ
      refine aw_iinc (n := 88) (j := 1) (v := v1) d_Tokens_init_85 rfl rfl (ev1) (by decide) rfl ?_
      refine aw_goto (t := 46) d_Tokens_init_88 (by decide) ?_
      refine aw_sub [1, 0] rfl ?_
      exact ih _ _ hJ
def tKEYS : Nat → Int32 := fun j => ([308281344, 180982784, 780447904, 182583296, 113868800, 556978176, 412554240, 83623936, 552965120, 36274176, 214499328, 88539136, 88555520, 446103552, 438042624, 544395264, 618790912] : List Int32).getD j 0
def tok_Z (f : Nat → Int32) : St := ((fun _ => 0), va_up (fun _ _ => 0) 0 f)
def tok_W : Nat → Nat → Int32
  | 0 => fun _ => 0
  | i + 1 => upd (tok_W i) (i / 6) ((tok_W i (i / 6) <<< ((5 : Int32) &&& 31)) ||| ((((tWORDS i &&& 255).toUInt32 % 65536).toInt32) &&& 31))
theorem tok_num : ∀ i, i < 102 → ¬ (102 : Int32) ≤ nI i ∧ inB (nI i / 6) 17 = true ∧ (nI i / 6).toNatClampNeg = i / 6 ∧ inB (nI i) 102 = true ∧ (nI i).toNatClampNeg = i ∧ (decide (¬ nI i < 0) && decide (nI i < 102)) = true ∧ nI i + 1 = nI (i + 1) := by decide +kernel
theorem tok_step {N : Nat} {K : St → Option St} {n i : Nat} (hi : i < 102) : J_Tokens_init_46 N K (n + 1) (nI i) (tok_Z (tok_W i)) = J_Tokens_init_46 N K n (nI (i + 1)) (tok_Z (tok_W (i + 1))) := by
  obtain ⟨h1, h2, h3, h4, h5, h6, h7⟩ := tok_num i hi
  have e0 : (tok_Z (tok_W i)).2 0 = tok_W i := rfl
  have ech : J_TString_charAt_X0 N (nI i) (tok_Z (tok_W i)) = some (((tWORDS i &&& 255).toUInt32 % 65536).toInt32, tok_Z (tok_W i)) := by
    simp only [J_TString_charAt_X0, J_TString_isLatin1_X0, J_TLatin_charAt_Y0, J_checkIndex, h6, h4, h5, ax_bind, ax_bindV, if_true, decide_true]
  have ewl : ∀ a b : Int32, J_TTokens_withLetter N a b (tok_Z (tok_W i)) = some ((a <<< ((5 : Int32) &&& 31)) ||| (b &&& 31), tok_Z (tok_W i)) := fun _ _ => rfl
  have eset : ∀ v : Int32, sA (tok_Z (tok_W i)) 0 (i / 6) v = tok_Z (upd (tok_W i) (i / 6) v) := by
    intro v
    show ((fun _ => (0 : Int32)), va_up (va_up (fun _ _ => (0 : Int32)) 0 (tok_W i)) 0 (upd (va_up (fun _ _ => (0 : Int32)) 0 (tok_W i) 0) (i / 6) v)) = _
    rw [bx_uu, va_up_self]
    rfl
  have h1' : ¬ ((17 * 6 : Int32) ≤ nI i) := h1
  rw [J_Tokens_init_46]
  simp only [h1', h2, h3, ech, ewl, ax_bind, ax_let, if_true, if_false, e0, eset, h7]
  rfl
theorem tok_run {N : Nat} : ∀ k, k ≤ 102 → J_Tokens_init_46 N some (k + 1) (nI (102 - k)) (tok_Z (tok_W (102 - k))) = some (tok_Z (tok_W 102)) := by
  intro k
  induction k with
  | zero =>
    intro _
    rw [J_Tokens_init_46]
    have : (17 * 6 : Int32) ≤ nI 102 := by decide +kernel
    simp only [Nat.sub_zero, this, if_true]
  | succ k ih =>
    intro hk
    rw [tok_step (by omega), show 102 - (k + 1) + 1 = 102 - k by omega]
    exact ih (by omega)
theorem tok_keys (N : Nat) : ∃ f : Nat → Int32, (∀ j : Nat, j < 17 → f j = tKEYS j) ∧ J_Tokens_init_46 N some 103 0 (tok_Z (fun _ => 0)) = some (tok_Z f) :=
  ⟨tok_W 102, by decide +kernel, tok_run (N := N) 102 (Nat.le_refl _)⟩
set_option maxHeartbeats 2000000 in
theorem c_Tokens_init {g : ax_G} (h0 : Nat) : ax_CV μ_Tokens_init g y_Tokens_init id [.ref h0] [(h0, .inr (1, [.null, .null, .int 0, .null, .null, .null, .int 0, .int 0]))] (fun u => ∃ (q1 : Nat) (q2 : Nat) (q3 : Nat) (q4 : Nat) (q5 : Nat) (f1 : Nat → Int32), (∀ j : Nat, j < 17 → f1 j = tKEYS j) ∧ u = [(h0, .inr (1, [.ref q1, .ref q2, .int 0, .ref q3, .ref q4, .ref q5, .int 0, .int 0])), (q1, .inl (g.2.2.1 0, 17, .inl f1)), (q2, .inl (g.2.2.1 1, 48, .inl (fun _ => 0))), (q3, .inl (g.2.2.1 0, 49, .inl (fun _ => 0))), (q4, .inl (g.2.2.1 0, 49, .inl (fun _ => 0))), (q5, .inl (g.2.2.1 0, 49, .inl (fun _ => 0)))]) := by
  refine ax_CV.of (plainFor_of_name rfl) rfl (Nat.le_of_ble_eq_true rfl) (fun x A hname => ?_)
  show AW x μ_Tokens_init g A id (0, 0) _ 0 [(0, .ref h0)] [] [(h0, .inr (1, [.null, .null, .int 0, .null, .null, .null, .int 0, .int 0]))]
  refine aw_aload_n (n := 1) d_Tokens_init_0 rfl rfl 0 rfl ?_
  refine an_obj (n := 4) km_Tokens_3 (by decide) (Nat.le_of_ble_eq_true rfl) d_Tokens_init_1 rfl ?_
  refine aw_aload_n (n := 5) d_Tokens_init_4 rfl rfl 0 rfl ?_
  refine aw_bipush (n := 7) (v := 17) d_Tokens_init_5 rfl (by decide) ?_
  refine an_newi (n := 9) (N := 17) (kk2 := (1, 17)) (by decide) (by decide) (by decide) (by decide) (by decide) rfl d_Tokens_init_7 rfl (fun q1 => ?_)
  refine an_ws (ws2 := [(h0, .inr (1, [.null, .null, .int 0, .null, .null, .null, .int 0, .int 0])), (q1, .inl (g.2.2.1 0, 17, .inl (fun _ => 0)))]) rfl ?_
  refine an_putF (n := 12) (C := R_Tokens) (T := F_Tokens) (N := 8) (ci := 1) (ty := (.array .int)) 0 rfl rfl 0 (by decide) ty_Tokens ty_Tokens_ok nm_Tokens rfl rfl rfl rfl (Nat.le_of_ble_eq_true rfl) i_Tokens rfl hname kf_Tokens_9 d_Tokens_init_9 rfl ?_
  refine an_ws (ws2 := [(h0, .inr (1, [.ref q1, .null, .int 0, .null, .null, .null, .int 0, .int 0])), (q1, .inl (g.2.2.1 0, 17, .inl (fun _ => 0)))]) rfl ?_
  refine aw_aload_n (n := 13) d_Tokens_init_12 rfl rfl 0 rfl ?_
  refine aw_bipush (n := 15) (v := 48) d_Tokens_init_13 rfl (by decide) ?_
  refine an_newc (n := 17) (N := 48) (kk2 := (2, 65)) (by decide) (by decide) (by decide) (by decide) (by decide) rfl d_Tokens_init_15 rfl (fun q2 => ?_)
  refine an_ws (ws2 := [(h0, .inr (1, [.ref q1, .null, .int 0, .null, .null, .null, .int 0, .int 0])), (q1, .inl (g.2.2.1 0, 17, .inl (fun _ => 0))), (q2, .inl (g.2.2.1 1, 48, .inl (fun _ => 0)))]) rfl ?_
  refine an_putF (n := 20) (C := R_Tokens) (T := F_Tokens) (N := 8) (ci := 1) (ty := (.array .char)) 0 rfl rfl 1 (by decide) ty_Tokens ty_Tokens_ok nm_Tokens rfl rfl rfl rfl (Nat.le_of_ble_eq_true rfl) i_Tokens rfl hname kf_Tokens_15 d_Tokens_init_17 rfl ?_
  refine an_ws (ws2 := [(h0, .inr (1, [.ref q1, .ref q2, .int 0, .null, .null, .null, .int 0, .int 0])), (q1, .inl (g.2.2.1 0, 17, .inl (fun _ => 0))), (q2, .inl (g.2.2.1 1, 48, .inl (fun _ => 0)))]) rfl ?_
  refine aw_aload_n (n := 21) d_Tokens_init_20 rfl rfl 0 rfl ?_
  refine aw_bipush (n := 23) (v := 49) d_Tokens_init_21 rfl (by decide) ?_
  refine an_newi (n := 25) (N := 49) (kk2 := (3, 114)) (by decide) (by decide) (by decide) (by decide) (by decide) rfl d_Tokens_init_23 rfl (fun q3 => ?_)
  refine an_ws (ws2 := [(h0, .inr (1, [.ref q1, .ref q2, .int 0, .null, .null, .null, .int 0, .int 0])), (q1, .inl (g.2.2.1 0, 17, .inl (fun _ => 0))), (q2, .inl (g.2.2.1 1, 48, .inl (fun _ => 0))), (q3, .inl (g.2.2.1 0, 49, .inl (fun _ => 0)))]) rfl ?_
  refine an_putF (n := 28) (C := R_Tokens) (T := F_Tokens) (N := 8) (ci := 1) (ty := (.array .int)) 0 rfl rfl 3 (by decide) ty_Tokens ty_Tokens_ok nm_Tokens rfl rfl rfl rfl (Nat.le_of_ble_eq_true rfl) i_Tokens rfl hname kf_Tokens_19 d_Tokens_init_25 rfl ?_
  refine an_ws (ws2 := [(h0, .inr (1, [.ref q1, .ref q2, .int 0, .ref q3, .null, .null, .int 0, .int 0])), (q1, .inl (g.2.2.1 0, 17, .inl (fun _ => 0))), (q2, .inl (g.2.2.1 1, 48, .inl (fun _ => 0))), (q3, .inl (g.2.2.1 0, 49, .inl (fun _ => 0)))]) rfl ?_
  refine aw_aload_n (n := 29) d_Tokens_init_28 rfl rfl 0 rfl ?_
  refine aw_bipush (n := 31) (v := 49) d_Tokens_init_29 rfl (by decide) ?_
  refine an_newi (n := 33) (N := 49) (kk2 := (4, 163)) (by decide) (by decide) (by decide) (by decide) (by decide) rfl d_Tokens_init_31 rfl (fun q4 => ?_)
  refine an_ws (ws2 := [(h0, .inr (1, [.ref q1, .ref q2, .int 0, .ref q3, .null, .null, .int 0, .int 0])), (q1, .inl (g.2.2.1 0, 17, .inl (fun _ => 0))), (q2, .inl (g.2.2.1 1, 48, .inl (fun _ => 0))), (q3, .inl (g.2.2.1 0, 49, .inl (fun _ => 0))), (q4, .inl (g.2.2.1 0, 49, .inl (fun _ => 0)))]) rfl ?_
  refine an_putF (n := 36) (C := R_Tokens) (T := F_Tokens) (N := 8) (ci := 1) (ty := (.array .int)) 0 rfl rfl 4 (by decide) ty_Tokens ty_Tokens_ok nm_Tokens rfl rfl rfl rfl (Nat.le_of_ble_eq_true rfl) i_Tokens rfl hname kf_Tokens_22 d_Tokens_init_33 rfl ?_
  refine an_ws (ws2 := [(h0, .inr (1, [.ref q1, .ref q2, .int 0, .ref q3, .ref q4, .null, .int 0, .int 0])), (q1, .inl (g.2.2.1 0, 17, .inl (fun _ => 0))), (q2, .inl (g.2.2.1 1, 48, .inl (fun _ => 0))), (q3, .inl (g.2.2.1 0, 49, .inl (fun _ => 0))), (q4, .inl (g.2.2.1 0, 49, .inl (fun _ => 0)))]) rfl ?_
  refine aw_aload_n (n := 37) d_Tokens_init_36 rfl rfl 0 rfl ?_
  refine aw_bipush (n := 39) (v := 49) d_Tokens_init_37 rfl (by decide) ?_
  refine an_newi (n := 41) (N := 49) (kk2 := (5, 212)) (by decide) (by decide) (by decide) (by decide) (by decide) rfl d_Tokens_init_39 rfl (fun q5 => ?_)
  refine an_ws (ws2 := [(h0, .inr (1, [.ref q1, .ref q2, .int 0, .ref q3, .ref q4, .null, .int 0, .int 0])), (q1, .inl (g.2.2.1 0, 17, .inl (fun _ => 0))), (q2, .inl (g.2.2.1 1, 48, .inl (fun _ => 0))), (q3, .inl (g.2.2.1 0, 49, .inl (fun _ => 0))), (q4, .inl (g.2.2.1 0, 49, .inl (fun _ => 0))), (q5, .inl (g.2.2.1 0, 49, .inl (fun _ => 0)))]) rfl ?_
  refine an_putF (n := 44) (C := R_Tokens) (T := F_Tokens) (N := 8) (ci := 1) (ty := (.array .int)) 0 rfl rfl 5 (by decide) ty_Tokens ty_Tokens_ok nm_Tokens rfl rfl rfl rfl (Nat.le_of_ble_eq_true rfl) i_Tokens rfl hname kf_Tokens_25 d_Tokens_init_41 rfl ?_
  refine an_ws (ws2 := [(h0, .inr (1, [.ref q1, .ref q2, .int 0, .ref q3, .ref q4, .ref q5, .int 0, .int 0])), (q1, .inl (g.2.2.1 0, 17, .inl (fun _ => 0))), (q2, .inl (g.2.2.1 1, 48, .inl (fun _ => 0))), (q3, .inl (g.2.2.1 0, 49, .inl (fun _ => 0))), (q4, .inl (g.2.2.1 0, 49, .inl (fun _ => 0))), (q5, .inl (g.2.2.1 0, 49, .inl (fun _ => 0)))]) rfl ?_
  refine aw_iconst (n := 45) (v := 0) d_Tokens_init_44 rfl (by decide) ?_
  refine aw_istore_n (n := 46) d_Tokens_init_45 rfl rfl (by decide) rfl ?_
  refine aw_sub [1, 0] rfl ?_
  obtain ⟨f1, hf, hJ⟩ := tok_keys 0
  refine aw_conv (g2 := (g.1, fun k => [h0, q1, q2, q3, q4, q5].getD k 0, g.2.2)) (w2 := wT (g.1, fun k => [h0, q1, q2, q3, q4, q5].getD k 0, g.2.2)) (σ2 := tok_Z (fun _ => 0)) rfl rfl rfl ?_
  refine t_Tokens_init_46 x A (s9 := tok_Z f1) (K91 := some) (fun σ h9 => ?_) 103 0 _ hJ
  cases h9
  refine aw_conv (w2 := id) (g2 := g) (σ2 := [(h0, .inr (1, [.ref q1, .ref q2, .int 0, .ref q3, .ref q4, .ref q5, .int 0, .int 0])), (q1, .inl (g.2.2.1 0, 17, .inl f1)), (q2, .inl (g.2.2.1 1, 48, .inl (fun _ => 0))), (q3, .inl (g.2.2.1 0, 49, .inl (fun _ => 0))), (q4, .inl (g.2.2.1 0, 49, .inl (fun _ => 0))), (q5, .inl (g.2.2.1 0, 49, .inl (fun _ => 0)))]) rfl rfl rfl ?_
  exact aw_vret d_Tokens_init_91 rfl ⟨q1, q2, q3, q4, q5, f1, hf, rfl⟩
