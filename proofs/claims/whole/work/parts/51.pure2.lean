/-! PURE ROWS 2: feed, name. -/
/-- the text: its length n, its characters -/
def rT (ln : Int32) (t : Nat → Int32) (lm : Int32) (u : Nat → Int32) : Prop := ∃ n : Nat, n ≤ 48 ∧ ln = nI n ∧ lm = nI n ∧ ∀ j, j < n → t j = u j ∧ ∃ c : Nat, 32 ≤ c ∧ c ≤ 126 ∧ t j = nI c
theorem pu_feed {N : Nat} {a : Int32} {σ τ : St} (h : rT (σ.1 1) (σ.2 1) (τ.1 0) (τ.2 0)) : ∃ (r : Int32), (J_Con_feed N a σ = some (r, σ) ∧ J_Mod_feed N a τ = some (r, τ)) ∨ (∃ (n : Nat) (v : Int32), n < 48 ∧ J_Con_feed N a σ = some (r, sF (sA σ 1 n v) 1 (nI (n + 1))) ∧ J_Mod_feed N a τ = some (r, sF (sA τ 0 n v) 0 (nI (n + 1))) ∧ rT (nI (n + 1)) (upd (σ.2 1) n v) (nI (n + 1)) (upd (τ.2 0) n v)) := by
  obtain ⟨n, hn, h1, h2, h3⟩ := h
  by_cases c1 : a < 32
  · exact ⟨-1, Or.inl ⟨by rw [J_Con_feed, if_pos c1], by rw [J_Mod_feed, if_pos c1]⟩⟩
  by_cases c2 : a ≤ 126
  case neg => exact ⟨-1, Or.inl ⟨by rw [J_Con_feed, if_neg c1, if_neg c2], by rw [J_Mod_feed, if_neg c1, if_neg c2]⟩⟩
  have g0 : ¬ a < 0 := by
    intro q
    apply c1
    rw [Int32.lt_iff_toInt_lt] at q ⊢
    have e0 : (0 : Int32).toInt = 0 := by decide
    have e1 : (32 : Int32).toInt = 32 := by decide
    omega
  obtain ⟨c, hc, ea⟩ := nI_of2 (M := 126) (n := 126) (by decide) g0 c2
  have hc32 : 32 ≤ c := by
    rcases Nat.lt_or_ge c 32 with q | q
    · exact absurd (show a < 32 by rw [ea]; exact nI_lt q (by decide)) c1
    · exact q
  have e1 : ∀ c, c ≤ 126 → ((nI c).toUInt32 % 65536).toInt32 = nI c ∧ vp_nar .char (nI c) = nI c := by decide +kernel
  have ec : (a.toUInt32 % 65536).toInt32 = nI c := by rw [ea]; exact (e1 c hc).1
  have ev : vp_nar .char (nI c) = nI c := (e1 c hc).2
  rcases Nat.lt_or_ge n 48 with q | q
  · have g1 : ¬ nI n = 48 := fun z => by
      have := (nI_eq (a := n) (b := 48) (by omega) (by omega)).mp z
      omega
    refine ⟨nI (n + 1), Or.inr ⟨n, nI c, q, ?_, ?_, ?_⟩⟩
    · rw [J_Con_feed, if_neg c1, if_pos c2, ec, J_Tokens_append, h1, if_neg g1, if_pos (pu_inB q (by decide)), ev, nI_clamp (by omega)]
      simp only [ax_let, ax_bind]
      rw [if_neg (by decide), show (sA σ 1 n (nI c)).1 1 = nI n from h1, nI_1]
      rfl
    · rw [J_Mod_feed, if_neg c1, if_pos c2, h2, if_neg g1, if_pos (pu_inB q (by decide)), ec, ev, nI_clamp (by omega)]
      simp only [ax_let]
      rw [show (sA τ 0 n (nI c)).1 0 = nI n from h2, nI_1]
      rfl
    · refine ⟨n + 1, by omega, rfl, rfl, fun j hj => ?_⟩
      by_cases e : j = n
      · subst e
        exact ⟨by rw [pk_us, pk_us], c, hc32, hc, pk_us⟩
      · rw [pk_un e, pk_un e]
        exact h3 j (by omega)
  · have e48 : n = 48 := by omega
    subst e48
    refine ⟨-2, Or.inl ⟨?_, ?_⟩⟩
    · rw [J_Con_feed, if_neg c1, if_pos c2, J_Tokens_append, h1, if_pos (by decide)]
      simp only [ax_bind]
      rw [if_pos trivial]
    · rw [J_Mod_feed, if_neg c1, if_pos c2, h2, if_pos (by decide)]
/-- a name's letters (1 .. 26, then 0) as one number -/
def encW (w : Nat → Nat) : Nat := ((((w 0 * 32 + w 1) * 32 + w 2) * 32 + w 3) * 32 + w 4) * 32 + w 5
/-- the names: how many, their keys, their characters -/
def rN (kn : Int32) (ks : Nat → Int32) (km : Int32) (nt : Nat → Int32) : Prop := ∃ n : Nat, n ≤ 12 ∧ kn = nI n ∧ km = nI n ∧ ∀ k, k < n → ∃ w : Nat → Nat, (∀ i, w i ≤ 26) ∧ ks k = nI (encW w) ∧ ∀ i, i < 6 → nt (6 * k + i) = if w i = 0 then 0 else nI (96 + w i)
theorem encW_lt {w : Nat → Nat} (h : ∀ i, w i ≤ 26) : encW w < 2 ^ 30 := by
  unfold encW
  have := h 0; have := h 1; have := h 2; have := h 3; have := h 4; have := h 5
  omega
theorem encW_dig {w : Nat → Nat} (h : ∀ i, w i ≤ 26) : encW w / 2 ^ 25 % 32 = w 0 ∧ encW w / 2 ^ 20 % 32 = w 1 ∧ encW w / 2 ^ 15 % 32 = w 2 ∧ encW w / 2 ^ 10 % 32 = w 3 ∧ encW w / 2 ^ 5 % 32 = w 4 ∧ encW w / 2 ^ 0 % 32 = w 5 := by
  unfold encW
  have := h 0; have := h 1; have := h 2; have := h 3; have := h 4; have := h 5
  refine ⟨by omega, by omega, by omega, by omega, by omega, by omega⟩
theorem pu_letter {w : Nat → Nat} (h : ∀ i, w i ≤ 26) {i : Nat} (hi : i < 6) : (nI (encW w) >>> ((5 * (5 - nI i)) &&& 31)) &&& 31 = nI (w i) := by
  have hl := encW_lt h
  obtain ⟨d0, d1, d2, d3, d4, d5⟩ := encW_dig h
  have sh : ∀ (s : Int32) (k d : Nat), (s.toBitVec.smod 32).toNat = k → encW w / 2 ^ k % 32 = d → (nI (encW w) >>> s) &&& 31 = nI d := by
    intro s k d hs hd
    rw [pk_shrN (by omega) s k hs, pk_andN (k := 5) (Nat.lt_of_le_of_lt (Nat.div_le_self _ _) (by omega)) (by decide), hd]
  rcases (show i = 0 ∨ i = 1 ∨ i = 2 ∨ i = 3 ∨ i = 4 ∨ i = 5 by omega) with rfl | rfl | rfl | rfl | rfl | rfl
  · exact sh _ 25 _ (by decide) d0
  · exact sh _ 20 _ (by decide) d1
  · exact sh _ 15 _ (by decide) d2
  · exact sh _ 10 _ (by decide) d3
  · exact sh _ 5 _ (by decide) d4
  · exact sh _ 0 _ (by decide) d5
theorem pu_name {N : Nat} {a b : Int32} {σ τ : St} (h : rN (σ.1 4) (σ.2 5) (τ.1 3) (τ.2 6)) : ∃ r, J_Con_name N a b σ = some (r, σ) ∧ J_Mod_name N a b τ = some (r, τ) := by
  obtain ⟨n, hn, h1, h2, h3⟩ := h
  suffices hh : ∃ r, J_Names_letterAt N a b σ = some (r, σ) ∧ J_Mod_name N a b τ = some (r, τ) by
    obtain ⟨r, g1, g2⟩ := hh
    exact ⟨r, by rw [J_Con_name, g1]; rfl, g2⟩
  rw [J_Names_letterAt, J_Mod_name, h1, h2]
  by_cases a0 : a < 0
  · exact ⟨-1, by rw [if_pos a0], by rw [if_pos a0]⟩
  rcases pk_ix a (n := n) (by omega) with q | q | ⟨k, hk, rfl⟩
  · exact absurd q a0
  · exact ⟨-1, by rw [if_neg a0, if_pos q], by rw [if_neg a0, if_pos q]⟩
  have a1 : ¬ nI n ≤ nI k := nI_ge hk (by omega)
  by_cases b0 : b < 0
  · exact ⟨-1, by rw [if_neg a0, if_neg a1, if_pos b0], by rw [if_neg a0, if_neg a1, if_pos b0]⟩
  rcases pk_ix b (n := 6) (by omega) with q | q | ⟨i, hi, rfl⟩
  · exact absurd q b0
  · have g1 : ¬ b < 6 := by
      intro z
      rw [Int32.lt_iff_toInt_lt] at z
      have q : (6 : Int32) ≤ b := q
      rw [Int32.le_iff_toInt_le] at q
      omega
    have g2 : 5 < b := by
      have q : (6 : Int32) ≤ b := q
      rw [Int32.le_iff_toInt_le] at q
      rw [Int32.lt_iff_toInt_lt]
      have e0 : (5 : Int32).toInt = 5 := by decide
      have e1 : (6 : Int32).toInt = 6 := by decide
      omega
    exact ⟨-1, by rw [if_neg a0, if_neg a1, if_neg b0, if_neg g1], by rw [if_neg a0, if_neg a1, if_neg b0, if_pos g2]⟩
  have b1 : nI i < 6 := nI_lt (b := 6) hi (by decide)
  have b2 : ¬ (5 : Int32) < nI i := nI_nlt (a := 5) (b := i) (by omega) (by decide)
  obtain ⟨w, w1, w2, w3⟩ := h3 k hk
  have e : 6 * nI k + nI i = nI (6 * k + i) := by rw [show (6 : Int32) = nI 6 from rfl, pk_mul, nI_add]
  have ein : inB (6 * nI k + nI i) 600 = true := by rw [e]; exact pu_inB (by omega) (by decide)
  have ecl : (6 * nI k + nI i).toNatClampNeg = 6 * k + i := by rw [e]; exact nI_clamp (by omega)
  have hw := w1 i
  rw [if_neg a0, if_neg a1, if_neg b0, if_pos b1, if_pos (pu_inB (by omega) (by decide)), nI_clamp (by omega), w2, pu_letter w1 hi, if_neg a0, if_neg a1, if_neg b0, if_neg b2, if_pos ein, ecl, w3 i hi]
  by_cases z : w i = 0
  · exact ⟨-1, by rw [z]; rfl, by rw [if_pos z, if_pos rfl]⟩
  · refine ⟨nI (96 + w i), ?_, ?_⟩
    · simp only [ax_let]
      rw [if_neg (nI_ne0 (by omega) (by omega)), show (97 : Int32) = nI 97 from rfl, nI_add, show w i + 97 = (96 + w i) + 1 by omega, nI_pred]
    · rw [if_neg z, if_neg (nI_ne0 (by omega) (by omega)), if_pos ein]
