/-! PURE ROWS 1: small numbers, the short methods. Printed by wip/whole/gen_p50.py. -/
theorem pu_inB {i N : Nat} (h : i < N) (hN : N < 2 ^ 31) : inB (nI i) N = true := by
  unfold inB
  rw [nI_clamp (by omega)]
  simp only [nI_pos (show i < 2 ^ 31 by omega), decide_false, Bool.false_or, Bool.not_eq_true', decide_eq_false_iff_not]
  omega
theorem pu_neg {N : Nat} {a : Int32} (h : inB a N = true) : ¬ a < 0 := by
  intro h0
  simp [inB, h0] at h
theorem pu_self (f : Nat → Nat → Int32) (k : Nat) : va_up f k (f k) = f := by
  funext j
  by_cases h : j = k
  · rw [h, va_up_self]
  · rw [va_up_ne _ _ h]
def fillF (f : Nat → Int32) (i n : Nat) (v : Int32) : Nat → Int32 := fun j => if i ≤ j ∧ j < n then v else f j
theorem fillF_end (f : Nat → Int32) (n : Nat) (v : Int32) : fillF f n n v = f := by
  funext j
  unfold fillF
  rw [if_neg (by omega)]
theorem fillF_step (f : Nat → Int32) {i n : Nat} (h : i < n) (v : Int32) : fillF (upd f i v) (i + 1) n v = fillF f i n v := by
  funext j
  unfold fillF upd
  by_cases h1 : j = i
  · subst h1
    rw [if_neg (by omega), if_pos rfl, if_pos (by omega)]
  · by_cases h2 : i + 1 ≤ j ∧ j < n
    · rw [if_pos h2, if_pos (by omega)]
    · rw [if_neg h2, if_neg h1, if_neg (by omega)]
theorem fillF_in {f : Nat → Int32} {i n j : Nat} {v : Int32} (h : i ≤ j) (h2 : j < n) : fillF f i n v j = v := if_pos ⟨h, h2⟩
theorem pu_set (σ : St) (k i n : Nat) (h : i < n) (v : Int32) : va_up (sA σ k i v).2 k (fillF ((sA σ k i v).2 k) (i + 1) n v) = va_up σ.2 k (fillF (σ.2 k) i n v) := by
  show va_up (va_up σ.2 k (upd (σ.2 k) i v)) k (fillF (va_up σ.2 k (upd (σ.2 k) i v) k) (i + 1) n v) = _
  rw [va_up_self, fillF_step _ h, bx_uu]
theorem fill_25 {N : Nat} {v : Int32} : ∀ (n i : Nat) (σ : St), i ≤ 12 → 12 - i < n → J_CArrays_fill_25_5 N n v (nI i) 12 σ = some (σ.1, va_up σ.2 19 (fillF (σ.2 19) i 12 v)) := by
  intro n
  induction n with
  | zero => intro i σ h1 h2; omega
  | succ n ih =>
    intro i σ h1 h2
    rw [J_CArrays_fill_25_5]
    rcases Nat.lt_or_ge i 12 with h | h
    · rw [if_neg (show ¬ (12 : Int32) ≤ nI i from nI_ge h (by decide)), if_pos (pu_inB h (by decide))]
      simp only [ax_let]
      rw [nI_1, nI_clamp (by omega), ih (i + 1) _ (by omega) (by omega), pu_set _ _ _ _ h]
      rfl
    · have e : i = 12 := by omega
      subst e
      rw [if_pos (show (12 : Int32) ≤ nI 12 by decide), fillF_end, pu_self]
theorem fill_26 {N : Nat} {v : Int32} : ∀ (n i : Nat) (σ : St), i ≤ 32 → 32 - i < n → J_CArrays_fill_26_5 N n v (nI i) 32 σ = some (σ.1, va_up σ.2 20 (fillF (σ.2 20) i 32 v)) := by
  intro n
  induction n with
  | zero => intro i σ h1 h2; omega
  | succ n ih =>
    intro i σ h1 h2
    rw [J_CArrays_fill_26_5]
    rcases Nat.lt_or_ge i 32 with h | h
    · rw [if_neg (show ¬ (32 : Int32) ≤ nI i from nI_ge h (by decide)), if_pos (pu_inB h (by decide))]
      simp only [ax_let]
      rw [nI_1, nI_clamp (by omega), ih (i + 1) _ (by omega) (by omega), pu_set _ _ _ _ h]
      rfl
    · have e : i = 32 := by omega
      subst e
      rw [if_pos (show (32 : Int32) ≤ nI 32 by decide), fillF_end, pu_self]
theorem fill_29 {N : Nat} {v : Int32} : ∀ (n i : Nat) (σ : St), i ≤ 256 → 256 - i < n → J_CArrays_fill_29_5 N n v (nI i) 256 σ = some (σ.1, va_up σ.2 22 (fillF (σ.2 22) i 256 v)) := by
  intro n
  induction n with
  | zero => intro i σ h1 h2; omega
  | succ n ih =>
    intro i σ h1 h2
    rw [J_CArrays_fill_29_5]
    rcases Nat.lt_or_ge i 256 with h | h
    · rw [if_neg (show ¬ (256 : Int32) ≤ nI i from nI_ge h (by decide)), if_pos (pu_inB h (by decide))]
      simp only [ax_let]
      rw [nI_1, nI_clamp (by omega), ih (i + 1) _ (by omega) (by omega), pu_set _ _ _ _ h]
      rfl
    · have e : i = 256 := by omega
      subst e
      rw [if_pos (show (256 : Int32) ≤ nI 256 by decide), fillF_end, pu_self]
theorem fill_31 {N : Nat} {v : Int32} : ∀ (n i : Nat) (σ : St), i ≤ 6 → 6 - i < n → J_CArrays_fill_31_5 N n v (nI i) 6 σ = some (σ.1, va_up σ.2 23 (fillF (σ.2 23) i 6 v)) := by
  intro n
  induction n with
  | zero => intro i σ h1 h2; omega
  | succ n ih =>
    intro i σ h1 h2
    rw [J_CArrays_fill_31_5]
    rcases Nat.lt_or_ge i 6 with h | h
    · rw [if_neg (show ¬ (6 : Int32) ≤ nI i from nI_ge h (by decide)), if_pos (pu_inB h (by decide))]
      simp only [ax_let]
      rw [nI_1, nI_clamp (by omega), ih (i + 1) _ (by omega) (by omega), pu_set _ _ _ _ h]
      rfl
    · have e : i = 6 := by omega
      subst e
      rw [if_pos (show (6 : Int32) ≤ nI 6 by decide), fillF_end, pu_self]
theorem mres_66 {N : Nat} : ∀ (n i : Nat) (τ : St), i ≤ 6 → 6 - i < n → J_Mod_restart_66 N n (nI i) τ = some (0, sF (sF (sF (τ.1, va_up τ.2 11 (fillF (τ.2 11) i 6 0)) 5 1) 6 0) 7 0) := by
  intro n
  induction n with
  | zero => intro i τ h1 h2; omega
  | succ n ih =>
    intro i τ h1 h2
    rw [J_Mod_restart_66]
    rcases Nat.lt_or_ge i 6 with h | h
    · rw [if_neg (show ¬ (6 : Int32) ≤ nI i from nI_ge h (by decide)), if_pos (pu_inB h (by decide))]
      simp only [ax_let]
      rw [nI_1, nI_clamp (by omega), ih (i + 1) _ (by omega) (by omega), pu_set _ _ _ _ h]
      rfl
    · have e : i = 6 := by omega
      subst e
      rw [if_pos (show (6 : Int32) ≤ nI 6 by decide), fillF_end, pu_self]
      rfl
theorem mres_44 {N : Nat} : ∀ (n i : Nat) (τ : St), i ≤ 256 → 256 - i < n → J_Mod_restart_44 N n (nI i) τ = J_Mod_restart_66 N N 0 (τ.1, va_up τ.2 10 (fillF (τ.2 10) i 256 0)) := by
  intro n
  induction n with
  | zero => intro i τ h1 h2; omega
  | succ n ih =>
    intro i τ h1 h2
    rw [J_Mod_restart_44]
    rcases Nat.lt_or_ge i 256 with h | h
    · rw [if_neg (show ¬ (256 : Int32) ≤ nI i from nI_ge h (by decide)), if_pos (pu_inB h (by decide))]
      simp only [ax_let]
      rw [nI_1, nI_clamp (by omega), ih (i + 1) _ (by omega) (by omega), pu_set _ _ _ _ h]
      rfl
    · have e : i = 256 := by omega
      subst e
      rw [if_pos (show (256 : Int32) ≤ nI 256 by decide), fillF_end, pu_self]
theorem mres_23 {N : Nat} : ∀ (n i : Nat) (τ : St), i ≤ 32 → 32 - i < n → J_Mod_restart_23 N n (nI i) τ = J_Mod_restart_44 N N 0 (τ.1, va_up τ.2 9 (fillF (τ.2 9) i 32 0)) := by
  intro n
  induction n with
  | zero => intro i τ h1 h2; omega
  | succ n ih =>
    intro i τ h1 h2
    rw [J_Mod_restart_23]
    rcases Nat.lt_or_ge i 32 with h | h
    · rw [if_neg (show ¬ (32 : Int32) ≤ nI i from nI_ge h (by decide)), if_pos (pu_inB h (by decide))]
      simp only [ax_let]
      rw [nI_1, nI_clamp (by omega), ih (i + 1) _ (by omega) (by omega), pu_set _ _ _ _ h]
      rfl
    · have e : i = 32 := by omega
      subst e
      rw [if_pos (show (32 : Int32) ≤ nI 32 by decide), fillF_end, pu_self]
theorem mres_2 {N : Nat} : ∀ (n i : Nat) (τ : St), i ≤ 64 → 64 - i < n → J_Mod_restart_2 N n (nI i) τ = J_Mod_restart_23 N N 0 (τ.1, va_up τ.2 7 (fillF (τ.2 7) i 64 0)) := by
  intro n
  induction n with
  | zero => intro i τ h1 h2; omega
  | succ n ih =>
    intro i τ h1 h2
    rw [J_Mod_restart_2]
    rcases Nat.lt_or_ge i 64 with h | h
    · rw [if_neg (show ¬ (64 : Int32) ≤ nI i from nI_ge h (by decide)), if_pos (pu_inB h (by decide))]
      simp only [ax_let]
      rw [nI_1, nI_clamp (by omega), ih (i + 1) _ (by omega) (by omega), pu_set _ _ _ _ h]
      rfl
    · have e : i = 64 := by omega
      subst e
      rw [if_pos (show (64 : Int32) ≤ nI 64 by decide), fillF_end, pu_self]
/-- what the class is behind a restart -/
def con_rs (σ : St) : St := sF (sF (sF (σ.1, va_up (va_up (va_up (va_up σ.2 19 (fillF (σ.2 19) 0 12 0)) 20 (fillF (σ.2 20) 0 32 0)) 22 (fillF (σ.2 22) 0 256 0)) 23 (fillF (σ.2 23) 0 6 0)) 19 1) 20 0) 21 0
def mod_rs (τ : St) : St := sF (sF (sF (τ.1, va_up (va_up (va_up (va_up τ.2 7 (fillF (τ.2 7) 0 64 0)) 9 (fillF (τ.2 9) 0 32 0)) 10 (fillF (τ.2 10) 0 256 0)) 11 (fillF (τ.2 11) 0 6 0)) 5 1) 6 0) 7 0
theorem con_restart {N : Nat} (hN : 300 ≤ N) (σ : St) : J_Con_restart N σ = some (0, con_rs σ) := by
  simp only [J_Con_restart, J_Machine_reset, J_Screen_paintAll, J_Pad_release, J_CArrays_fill_25, J_CArrays_fill_26, J_CArrays_fill_29, J_CArrays_fill_31, ← nI_0]
  rw [fill_25 N 0 σ (by omega) (by omega)]
  simp only [ax_bindV]
  rw [fill_26 N 0 _ (by omega) (by omega)]
  simp only []
  rw [fill_29 N 0 _ (by omega) (by omega)]
  simp only []
  rw [fill_31 N 0 _ (by omega) (by omega)]
  rfl
theorem mod_restart {N : Nat} (hN : 300 ≤ N) (τ : St) : J_Mod_restart N τ = some (0, mod_rs τ) := by
  rw [J_Mod_restart, show (0 : Int32) = nI 0 from nI_0.symm, mres_2 N 0 τ (by omega) (by omega), show (0 : Int32) = nI 0 from nI_0.symm, mres_23 N 0 _ (by omega) (by omega), show (0 : Int32) = nI 0 from nI_0.symm, mres_44 N 0 _ (by omega) (by omega), show (0 : Int32) = nI 0 from nI_0.symm, mres_66 N 0 _ (by omega) (by omega)]
  rfl
theorem pu_value {N n : Nat} {a : Int32} {σ τ : St} (hn : n ≤ 12) (h1 : σ.1 4 = nI n) (h2 : τ.1 3 = nI n) (hv : ∀ k, k < 12 → σ.2 19 k = τ.2 7 k) : ∃ r, J_Con_value N a σ = some (r, σ) ∧ J_Mod_value N a τ = some (r, τ) := by
  rw [J_Con_value, J_Mod_value, h1, h2]
  by_cases h0 : a < 0
  · exact ⟨0, by rw [if_pos h0], by rw [if_pos h0]⟩
  · rcases pk_ix a (n := n) (by omega) with h | h | ⟨j, hj, rfl⟩
    · exact absurd h h0
    · exact ⟨0, by rw [if_neg h0, if_pos h], by rw [if_neg h0, if_pos h]⟩
    · refine ⟨σ.2 19 j, ?_, ?_⟩
      · rw [if_neg h0, if_neg (nI_ge hj (by omega)), if_pos (pu_inB (by omega) (by decide)), nI_clamp (by omega)]
      · rw [if_neg h0, if_neg (nI_ge hj (by omega)), if_pos (pu_inB (by omega) (by decide)), nI_clamp (by omega), hv j (by omega)]
theorem pu_cell0 {N : Nat} {a : Int32} {σ τ : St} (hv : ∀ k, k < 32 → σ.2 20 k = τ.2 9 k) : ∃ r, J_Machine_readCell N a σ = some (r, σ) ∧ J_Mod_cell N a τ = some (r, τ) := by
  rw [J_Machine_readCell, J_Mod_cell]
  by_cases h0 : a < 0
  · exact ⟨0, by rw [if_pos h0], by rw [if_pos h0]⟩
  · rcases pk_ix a (n := 32) (by omega) with h | h | ⟨j, hj, rfl⟩
    · exact absurd h h0
    · have h : (32 : Int32) ≤ a := h
      exact ⟨0, by rw [if_neg h0, if_pos h], by rw [if_neg h0, if_pos h]⟩
    · have h9 : ¬ (32 : Int32) ≤ nI j := nI_ge (b := 32) hj (by decide)
      refine ⟨σ.2 20 j, ?_, ?_⟩
      · rw [if_neg h0, if_neg h9, if_pos (pu_inB (by omega) (by decide)), nI_clamp (by omega)]
      · rw [if_neg h0, if_neg h9, if_pos (pu_inB (by omega) (by decide)), nI_clamp (by omega), hv j (by omega)]
theorem pu_cell {N : Nat} {a : Int32} {σ τ : St} (hv : ∀ k, k < 32 → σ.2 20 k = τ.2 9 k) : ∃ r, J_Con_cell N a σ = some (r, σ) ∧ J_Mod_cell N a τ = some (r, τ) := by
  obtain ⟨r, h1, h2⟩ := pu_cell0 (N := N) (a := a) hv
  exact ⟨r, by rw [J_Con_cell, h1]; rfl, h2⟩
theorem pu_nodes {N n : Nat} {a : Int32} {σ τ : St} (hn : n ≤ 28) (h1 : σ.1 16 = nI n) (h2 : τ.1 1 = nI n) (hv : ∀ k, k < n → σ.2 14 k = τ.2 5 k) : ∃ r, J_Con_nodes N a σ = some (r, σ) ∧ J_Mod_nodes N a τ = some (r, τ) := by
  rw [J_Con_nodes, J_Mod_nodes, h1, h2]
  by_cases h0 : a < 1
  · exact ⟨-1, by rw [if_pos h0], by rw [if_pos h0]⟩
  · by_cases h9 : nI n < a
    · exact ⟨-1, by rw [if_neg h0, if_pos h9], by rw [if_neg h0, if_pos h9]⟩
    · have g0 : ¬ a < 0 := by
        intro q
        apply h0
        rw [Int32.lt_iff_toInt_lt] at q ⊢
        have : (0 : Int32).toInt = 0 := by decide
        have : (1 : Int32).toInt = 1 := by decide
        omega
      obtain ⟨j, hj, rfl⟩ := nI_of g0
      have hj1 : 1 ≤ j := by
        rcases Nat.lt_or_ge j 1 with q | q
        · exact absurd (show nI j < 1 from nI_lt q (by decide)) h0
        · exact q
      have hj2 : j ≤ n := by
        rcases Nat.lt_or_ge n j with q | q
        · exact absurd (nI_lt q hj) h9
        · exact q
      have e : nI j - 1 = nI (j - 1) := by
        obtain ⟨k, rfl⟩ : ∃ k, j = k + 1 := ⟨j - 1, by omega⟩
        exact nI_pred k
      refine ⟨σ.2 14 (j - 1), ?_, ?_⟩
      · rw [if_neg h0, if_neg h9, e, if_pos (pu_inB (by omega) (by decide)), nI_clamp (by omega)]
      · rw [if_neg h0, if_neg h9, e, if_pos (pu_inB (by omega) (by decide)), nI_clamp (by omega), hv (j - 1) (by omega)]
theorem pu_count {N : Nat} {a : Int32} {σ τ : St} (h0 : σ.1 16 = τ.1 1) (h1 : σ.1 1 = τ.1 0) (h2 : σ.1 4 = τ.1 3) (h3 : σ.1 20 = τ.1 6) (h4 : σ.1 21 = τ.1 7) (h5 : σ.1 17 = τ.1 4) : ∃ r, J_Con_count N a σ = some (r, σ) ∧ J_Mod_count N a τ = some (r, τ) := by
  rw [J_Con_count, J_Mod_count, h0, h1, h2, h3, h4, h5]
  by_cases c0 : a = 0
  · exact ⟨_, by rw [if_pos c0], by rw [if_pos c0]⟩
  by_cases c1 : a = 1
  · exact ⟨_, by rw [if_neg c0, if_pos c1], by rw [if_neg c0, if_pos c1]⟩
  by_cases c2 : a = 2
  · exact ⟨_, by rw [if_neg c0, if_neg c1, if_pos c2], by rw [if_neg c0, if_neg c1, if_pos c2]⟩
  by_cases c3 : a = 3
  · exact ⟨_, by rw [if_neg c0, if_neg c1, if_neg c2, if_pos c3], by rw [if_neg c0, if_neg c1, if_neg c2, if_pos c3]⟩
  by_cases c4 : a = 4
  · exact ⟨_, by rw [if_neg c0, if_neg c1, if_neg c2, if_neg c3, if_pos c4], by rw [if_neg c0, if_neg c1, if_neg c2, if_neg c3, if_pos c4]⟩
  by_cases c5 : a = 5
  · by_cases z : τ.1 4 = 0
    · exact ⟨0, by rw [if_neg c0, if_neg c1, if_neg c2, if_neg c3, if_neg c4, if_pos c5, if_pos z], by rw [if_neg c0, if_neg c1, if_neg c2, if_neg c3, if_neg c4, if_pos c5, if_pos z]⟩
    · exact ⟨1, by rw [if_neg c0, if_neg c1, if_neg c2, if_neg c3, if_neg c4, if_pos c5, if_neg z], by rw [if_neg c0, if_neg c1, if_neg c2, if_neg c3, if_neg c4, if_pos c5, if_neg z]⟩
  · exact ⟨-1, by rw [if_neg c0, if_neg c1, if_neg c2, if_neg c3, if_neg c4, if_neg c5], by rw [if_neg c0, if_neg c1, if_neg c2, if_neg c3, if_neg c4, if_neg c5]⟩
/-- inside of the screen, or not -/
theorem pu_in {N : Nat} (a b : Int32) : (∃ i j : Nat, i < 16 ∧ j < 16 ∧ a = nI i ∧ b = nI j ∧ (∀ σ : St, J_Screen_isInside N a b σ = some (1, σ)) ∧ (∀ τ : St, J_Mod_seen N a b τ = some (1, τ))) ∨ ((∀ σ : St, J_Screen_isInside N a b σ = some (0, σ)) ∧ (∀ τ : St, J_Mod_seen N a b τ = some (0, τ))) := by
  by_cases a0 : a < 0
  · exact Or.inr ⟨fun σ => by rw [J_Screen_isInside, if_pos a0], fun τ => by rw [J_Mod_seen, if_pos a0]⟩
  by_cases a1 : (16 : Int32) ≤ a
  · exact Or.inr ⟨fun σ => by rw [J_Screen_isInside, if_neg a0, if_pos a1], fun τ => by rw [J_Mod_seen, if_neg a0, if_pos a1]⟩
  by_cases b0 : b < 0
  · exact Or.inr ⟨fun σ => by rw [J_Screen_isInside, if_neg a0, if_neg a1, if_pos b0], fun τ => by rw [J_Mod_seen, if_neg a0, if_neg a1, if_pos b0]⟩
  by_cases b1 : (16 : Int32) ≤ b
  · exact Or.inr ⟨fun σ => by rw [J_Screen_isInside, if_neg a0, if_neg a1, if_neg b0, if_pos b1], fun τ => by rw [J_Mod_seen, if_neg a0, if_neg a1, if_neg b0, if_pos b1]⟩
  rcases pk_ix a (n := 16) (by omega) with h | h | ⟨i, hi, e1⟩
  · exact absurd h a0
  · exact absurd h a1
  rcases pk_ix b (n := 16) (by omega) with h | h | ⟨j, hj, e2⟩
  · exact absurd h b0
  · exact absurd h b1
  exact Or.inl ⟨i, j, hi, hj, e1, e2, fun σ => by rw [J_Screen_isInside, if_neg a0, if_neg a1, if_neg b0, if_neg b1], fun τ => by rw [J_Mod_seen, if_neg a0, if_neg a1, if_neg b0, if_neg b1]⟩
theorem pu_ix1 {i j : Nat} (hi : i < 16) (hj : j < 16) : nI j * 16 + nI i = nI (16 * j + i) := by
  rw [show (16 : Int32) = nI 16 from rfl, pk_mul, nI_add, Nat.mul_comm]
theorem pu_ix2 {i j : Nat} (hi : i < 16) (hj : j < 16) : 16 * nI j + nI i = nI (16 * j + i) := by
  rw [show (16 : Int32) = nI 16 from rfl, pk_mul, nI_add]
theorem pu_dot {N : Nat} {a b : Int32} {σ τ : St} (hv : ∀ k, k < 256 → σ.2 22 k = τ.2 10 k) : ∃ r, J_Con_dot N a b σ = some (r, σ) ∧ J_Mod_dot N a b τ = some (r, τ) := by
  rcases pu_in (N := N) a b with ⟨i, j, hi, hj, rfl, rfl, h1, h2⟩ | ⟨h1, h2⟩
  · refine ⟨σ.2 22 (16 * j + i), ?_, ?_⟩
    · rw [J_Con_dot, h1]
      simp only [ax_bind]
      rw [if_neg (by decide), J_Screen_colourAt, h1]
      simp only [ax_bind]
      rw [if_neg (by decide), pu_ix1 hi hj, if_pos (pu_inB (by omega) (by decide)), nI_clamp (by omega)]
    · rw [J_Mod_dot, h2]
      simp only [ax_bind]
      rw [if_neg (by decide), pu_ix2 hi hj, if_pos (pu_inB (by omega) (by decide)), nI_clamp (by omega), hv _ (by omega)]
  · exact ⟨-1, by rw [J_Con_dot, h1]; rfl, by rw [J_Mod_dot, h2]; rfl⟩
