/-! PURE ROWS 8: the reference's search for a name; signs. -/
def eq6 (v w : Nat → Nat) : Prop := ∀ j, j < 6 → v j = w j
theorem pu_nameOf {N n s e kn : Nat} {τ : St} {t : Nat → Nat} {V : Nat → Nat → Nat} (hN : 200 ≤ N) (h : tM τ n t) (hen : e ≤ n) (hse : s ≤ e) (hk6 : e - s ≤ 6) (hl : ∀ j, s ≤ j → j < e → 97 ≤ t j ∧ t j ≤ 122) (hk : kn < 99) (hV : ∀ k, k < kn → (∀ i, V k i ≤ 26) ∧ rowIs (τ.2 6) k (V k)) : ∀ (m k : Nat), k ≤ kn → kn - k < m →
    (∃ k2, k ≤ k2 ∧ k2 < kn ∧ eq6 (V k2) (wOf t s e) ∧ (∀ k3, k ≤ k3 → k3 < k2 → ¬ eq6 (V k3) (wOf t s e)) ∧ J_Mod_nameOf_3 N m (nI s) (nI e) (nI kn) (nI k) τ = some (nI k2, τ)) ∨
    ((∀ k2, k ≤ k2 → k2 < kn → ¬ eq6 (V k2) (wOf t s e)) ∧ ∃ τ2 : St, J_Mod_nameOf_3 N m (nI s) (nI e) (nI kn) (nI k) τ = some (nI kn, τ2) ∧ τ2.1 = τ.1 ∧ (∀ k, k ≠ 6 → τ2.2 k = τ.2 k) ∧ (∀ x, x < 6 * kn → τ2.2 6 x = τ.2 6 x) ∧ rowIs (τ2.2 6) kn (wOf t s e)) := by
  intro m
  induction m with
  | zero => intro k _ h; omega
  | succ m ih =>
    intro k hkk hm
    rw [J_Mod_nameOf_3]
    rcases Nat.lt_or_ge k kn with q | q
    · rw [if_neg (nI_ge q (by omega))]
      obtain ⟨hv, hr⟩ := hV k q
      have hs := pu_same (N := N) (kn := kn) (K := fun l1 l2 l3 l4 σ => J_Mod_nameOf_3 N m l1 l2 l3 l4 σ) h hen hse hk6 hl (by omega) hv hr N 0 1 (by omega) (by omega) (Or.inr rfl)
      rw [nI_0] at hs
      rcases hs with ⟨⟨-, a1⟩, a2⟩ | ⟨a1, a2⟩
      · exact Or.inl ⟨k, Nat.le_refl _, q, fun j hj => a1 j (Nat.zero_le _) hj, fun k3 c1 c2 => by omega, a2⟩
      · have hne : ¬ eq6 (V k) (wOf t s e) := fun w => a1 ⟨rfl, fun j _ hj => w j hj⟩
        rcases ih (k + 1) (by omega) (by omega) with ⟨k2, b1, b2, b3, b5, b4⟩ | ⟨b1, τ2, b2, b3⟩
        · refine Or.inl ⟨k2, by omega, b2, b3, fun k3 c1 c2 => ?_, a2.trans b4⟩
          by_cases ek : k3 = k
          · rw [ek]; exact hne
          · exact b5 k3 (by omega) c2
        · refine Or.inr ⟨fun k2 c1 c2 => ?_, τ2, a2.trans b2, b3⟩
          by_cases ek : k2 = k
          · rw [ek]; exact hne
          · exact b1 k2 (by omega) c2
    · have ek : k = kn := by omega
      subst ek
      rw [if_pos (nI_le (Nat.le_refl _) (by omega))]
      obtain ⟨τ2, g1, g2, g3, g4, g5⟩ := pu_write (N := N) hen hse hl hk N 0 τ h (by omega) (by omega)
      rw [nI_0] at g1
      exact Or.inr ⟨fun k2 c1 c2 => by omega, τ2, g1, g2, g3, fun x hx => g4 x (by omega), fun j hj => g5 j (Nat.zero_le _) hj⟩
/-- the signs -/
def isS (c : Nat) : Bool := [43, 45, 42, 47, 37, 60, 62, 61, 38, 124, 33, 64, 44, 40, 41].contains c
theorem isS_ix : ∀ c, c ≤ 126 → (isS c = true ↔ ∃ j, j < 15 ∧ tSIGNS j = nI c) := by decide +kernel
theorem pu_ixl {N c : Nat} {σ : St} : ∀ (m i : Nat), i ≤ 15 → 15 - i < m → (∃ j, i ≤ j ∧ j < 15 ∧ tSIGNS j = nI c ∧ J_CLatin_indexOfChar_Y1_7 N m 15 (nI c) (nI i) σ = some (nI j, σ)) ∨ ((∀ j, i ≤ j → j < 15 → ¬ tSIGNS j = nI c) ∧ J_CLatin_indexOfChar_Y1_7 N m 15 (nI c) (nI i) σ = some (-1, σ)) := by
  intro m
  induction m with
  | zero => intro i _ h; omega
  | succ m ih =>
    intro i hi hm
    rw [J_CLatin_indexOfChar_Y1_7]
    rcases Nat.lt_or_ge i 15 with q | q
    · rw [if_neg (show ¬ (15 : Int32) ≤ nI i from nI_ge (b := 15) q (by decide)), if_pos (pu_inB q (by decide)), nI_clamp (by omega)]
      by_cases z : tSIGNS i = nI c
      · exact Or.inl ⟨i, Nat.le_refl _, q, z, by rw [if_pos z]⟩
      · simp only [ax_let]
        rw [if_neg z, nI_1]
        rcases ih (i + 1) (by omega) (by omega) with ⟨j, a1, a2, a3, a4⟩ | ⟨a1, a2⟩
        · exact Or.inl ⟨j, by omega, a2, a3, a4⟩
        · refine Or.inr ⟨fun j b1 b2 => ?_, a2⟩
          by_cases ej : j = i
          · rw [ej]; exact z
          · exact a1 j (by omega) b2
    · exact Or.inr ⟨fun j a b => by omega, by rw [if_pos (show (15 : Int32) ≤ nI i from nI_le (a := 15) q (by omega))]⟩
/-- the class asks whether a character is a sign -/
theorem pu_sign {N c : Nat} {σ : St} (hN : 20 ≤ N) (hc : c ≤ 126) : ∃ r : Int32, J_CString_indexOf_0_X1 N (nI c) σ = some (r, σ) ∧ (r < 0 ↔ ¬ isS c = true) := by
  have e8 : ∀ c, c ≤ 126 → (nI c).toInt8.toInt32 = nI c := by decide +kernel
  have hL : J_CString_indexOf_0_X1 N (nI c) σ = J_CLatin_indexOfChar_Y1_7 N N 15 (nI c) 0 σ := by
    rw [J_CString_indexOf_0_X1, J_CString_indexOf_1_X1, J_CString_isLatin1_X1, ax_bs, if_pos (by decide), J_CString_length_X1, J_CString_coder_X1, ax_bs, ax_bs, J_CLatin_indexOf_Y1, J_CLatin_canEncode, if_neg (nI_pos (by omega)), if_neg (show ¬ (255 : Int32) < nI c from nI_nlt (a := 255) (by omega) (by decide)), ax_bs, if_neg (by decide), J_CMath_max, if_neg (by decide), ax_bs, J_CMath_min, if_neg (by decide), ax_bs, if_pos (by decide), J_CLatin_indexOfChar_Y1, e8 c hc]
    simp only [ax_let]
    rw [show (15 : Int32) >>> ((0 : Int32) &&& 31) = 15 by decide]
    cases hh : J_CLatin_indexOfChar_Y1_7 N N 15 (nI c) 0 σ with
    | none => rfl
    | some p => rfl
  have hl := pu_ixl (N := N) (c := c) (σ := σ) N 0 (by omega) (by omega)
  rw [nI_0] at hl
  rcases hl with ⟨j, a1, a2, a3, a4⟩ | ⟨a1, a2⟩
  · exact ⟨nI j, hL.trans a4, fun w => absurd w (nI_pos (by omega)), fun w => absurd ((isS_ix c hc).mpr ⟨j, a2, a3⟩) w⟩
  · exact ⟨-1, hL.trans a2, fun _ w => by
      obtain ⟨j, b1, b2⟩ := (isS_ix c hc).mp w
      exact a1 j (Nat.zero_le _) b1 b2, fun _ => by decide⟩
def sgnB (a : Int32) : Bool := (!(decide (a < 37)) && (decide (a ≤ 45) && !(decide (a = 39)))) || (decide (a = 47) || (decide (a = 60) || (decide (a = 62) || (decide (a = 61) || (decide (a = 124) || (decide (a = 33) || decide (a = 64)))))))
theorem sgnB_isS : ∀ c, c ≤ 126 → sgnB (nI c) = isS c := by decide +kernel
