/-! PURE ROWS 9: one token, on both sides. -/
theorem pu_sgn18 {N : Nat} {a : Int32} {τ : St} : J_Mod_sign_18 N a τ = some (if (decide (a = 47) || (decide (a = 60) || (decide (a = 62) || (decide (a = 61) || (decide (a = 124) || (decide (a = 33) || decide (a = 64))))))) = true then 1 else 0, τ) := by
  rw [J_Mod_sign_18]
  by_cases h1 : a = 47
  · simp [h1]
  by_cases h2 : a = 60
  · simp [h2]
  by_cases h3 : a = 62
  · simp [h3]
  by_cases h4 : a = 61
  · simp [h4]
  by_cases h5 : a = 124
  · simp [h5]
  by_cases h6 : a = 33
  · simp [h6]
  by_cases h7 : a = 64
  · simp [h7]
  simp [h1, h2, h3, h4, h5, h6, h7]
theorem pu_msgn {N : Nat} {a : Int32} {τ : St} : J_Mod_sign N a τ = some (if sgnB a = true then 1 else 0, τ) := by
  rw [J_Mod_sign, pu_sgn18]
  unfold sgnB
  by_cases h1 : a < 37
  · simp only [h1, decide_true, Bool.not_true, Bool.false_and, Bool.false_or, if_true]
  by_cases h2 : (45 : Int32) < a
  · have h3 : ¬ a ≤ 45 := fun q => by
      rw [Int32.lt_iff_toInt_lt] at h2
      rw [Int32.le_iff_toInt_le] at q
      omega
    simp only [h1, h2, h3, decide_false, Bool.not_false, Bool.true_and, Bool.false_and, Bool.false_or, if_true, if_false]
  have h3 : a ≤ 45 := by
    rw [Int32.lt_iff_toInt_lt] at h2
    rw [Int32.le_iff_toInt_le]
    omega
  by_cases h4 : a = 39
  · simp only [h1, h2, h3, h4, decide_true, decide_false, Bool.not_true, Bool.not_false, Bool.true_and, Bool.and_false, Bool.false_or, if_true, if_false]
    rfl
  · simp only [h1, h2, h3, h4, decide_true, decide_false, Bool.not_false, Bool.true_and, Bool.true_or, if_true, if_false]
/-- a token's kinds and meanings on both sides; b and b2 names are known before and behind it -/
def tokR (V : Nat → Nat → Nat) (b b2 : Nat) (kc cm km mm : Int32) : Prop :=
  (kc = 2 ∧ km = 1 ∧ cm = mm ∧ b2 = b) ∨
  (∃ i, i < 17 ∧ kc = nI (4 + i) ∧ km = nI (wdM i) ∧ b2 = b) ∨
  (kc = 3 ∧ km = 2 ∧ ∃ id, mm = nI id ∧ cm = nI (encW (V id)) ∧ id < b2 ∧ ((id < b ∧ b2 = b) ∨ (id = b ∧ b2 = b + 1)) ∧ ∀ k, k < id → ¬ eq6 (V k) (V id)) ∨
  (∃ c, isS c = true ∧ c ≤ 126 ∧ kc = nI c ∧ km = nI c ∧ b2 = b) ∨
  (kc = 1 ∧ km = 0 ∧ b2 = b)
theorem tokR.mono {V V2 : Nat → Nat → Nat} {b b2 : Nat} {kc cm km mm : Int32} (h : tokR V b b2 kc cm km mm) (hV : ∀ k, k < b2 → V2 k = V k) : tokR V2 b b2 kc cm km mm := by
  rcases h with h | h | ⟨h1, h2, id, h3, h4, h5, h6, h7⟩ | h | h
  · exact Or.inl h
  · exact Or.inr (Or.inl h)
  · refine Or.inr (Or.inr (Or.inl ⟨h1, h2, id, h3, by rw [hV id h5]; exact h4, h5, h6, fun k hk => ?_⟩))
    rw [hV id h5, hV k (by omega)]
    exact h7 k hk
  · exact Or.inr (Or.inr (Or.inr (Or.inl h)))
  · exact Or.inr (Or.inr (Or.inr (Or.inr h)))
/-- what one token leaves -/
def tokRes (N n p f kn : Nat) (V : Nat → Nat → Nat) (σ τ : St) : Prop := ∃ (kc km mm : Int32) (e kn2 : Nat) (σ2 τ2 : St) (V2 : Nat → Nat → Nat), p < e ∧ e ≤ n ∧ J_Tokens_cutToken N σ = some (kc, σ2) ∧ ¬ kc = 0 ∧
  (∀ (K : Int32 → Int32 → Int32 → Int32 → St → Option St) (l1 : Int32), J_Mod_cut_42 N K l1 (nI p) (nI kn) τ = J_Mod_cut_265 N K l1 (nI p) (nI kn2) (nI e) km mm τ2) ∧
  σ2.1 3 = nI e ∧ (∀ k, k ≠ 3 → σ2.1 k = σ.1 k) ∧ (∀ k, k ≠ 4 → σ2.2 k = σ.2 k) ∧ (∀ j, j ≠ f → σ2.2 4 j = σ.2 4 j) ∧
  τ2.1 = τ.1 ∧ (∀ k, k ≠ 6 → τ2.2 k = τ.2 k) ∧ (∀ x, x < 6 * kn → τ2.2 6 x = τ.2 6 x) ∧ kn ≤ kn2 ∧ kn2 ≤ kn + 1 ∧ (∀ k, k < kn → V2 k = V k) ∧
  (∀ k, k < kn2 → (∀ i, V2 k i ≤ 26) ∧ rowIs (τ2.2 6) k (V2 k)) ∧ tokR V2 kn kn2 kc (σ2.2 4 f) km mm
set_option maxHeartbeats 1000000 in
theorem pu_tok {N n p f kn : Nat} {σ τ : St} {t : Nat → Nat} {V : Nat → Nat → Nat} (hN : 200 ≤ N) (h : tC σ n t) (hm : tM τ n t) (hkeys : ∀ j, j < 17 → σ.2 0 j = tKEYS j) (h3 : σ.1 3 = nI p) (hp : p < n) (hf : σ.1 2 = nI f) (hf49 : f < 49) (hkn : kn < 90) (hV : ∀ k, k < kn → (∀ i, V k i ≤ 26) ∧ rowIs (τ.2 6) k (V k)) : tokRes N n p f kn V σ τ := by
  obtain ⟨hn, h1, h2⟩ := id h
  obtain ⟨-, m1, m2⟩ := id hm
  obtain ⟨e1, c1, c2⟩ := h2 p hp
  obtain ⟨e2, -, -⟩ := m2 p hp
  have hi48 : inB (nI p) 48 = true := pu_inB (by omega) (by decide)
  have hcl : (nI p).toNatClampNeg = p := nI_clamp (by omega)
  have hlt : nI p < nI n := nI_lt hp (by omega)
  have hcT : ∀ {X : Option (Int32 × St)}, ax_bind (J_Tokens_isLetter N (nI (t p)) σ) (fun r1 σ1 =>
  (if r1 = 0 then
  (if (inB (σ1.1 3) 48) = true then ax_bind (J_Tokens_isDigit N (σ1.2 1 (σ1.1 3).toNatClampNeg) σ1) (fun r2 σ2 =>
  (if r2 = 0 then
  (if (inB (σ2.1 3) 48) = true then ax_let ((σ2.2 1 (σ2.1 3).toNatClampNeg) : Int32) (fun v1 =>
  ax_let (sF σ2 3 ((σ2.1 3) + 1)) (fun σ3 =>
  ax_bind (J_CString_indexOf_0_X1 N v1 σ3) (fun r3 σ4 =>
  (if r3 < 0 then
  some (1, σ4)
  else some (v1, σ4))))) else none)
  else ax_bind (J_Tokens_cutNumber N σ2) (fun r4 σ5 =>
  some (r4, σ5)))) else none)
  else ax_bind (J_Tokens_cutWord N σ1) (fun r5 σ6 =>
  some (r5, σ6)))) = X → J_Tokens_cutToken N σ = X := by
    intro X hX
    rw [J_Tokens_cutToken, h3, h1, if_neg (pu_eqd (by omega) (by omega) (by omega)), if_pos hi48, hcl, e1]
    rw [h3] at *
    exact hX
  rw [pu_isL c2, ax_bs] at hcT
  by_cases hL : isL (t p) = true
  · -- a word
    have hge := endP_ge isL t (n - p) p
    have hle := endP_le isL t (n - p) p
    have hall := endP_all isL t (n - p) p
    have hgt : p < endP isL t (n - p) p := by
      rw [show n - p = (n - (p + 1)) + 1 by omega, endP, if_pos hL]
      have := endP_ge isL t (n - (p + 1)) (p + 1)
      omega
    generalize he : endP isL t (n - p) p = e at hge hle hall hgt
    have hl : ∀ j, p ≤ j → j < e → 97 ≤ t j ∧ t j ≤ 122 := by
      intro j a b
      have := hall j a b
      simp only [isL, Bool.and_eq_true, decide_eq_true_eq] at this
      exact this
    rw [if_pos hL, if_neg (by decide)] at hcT
    have hW : J_Tokens_cutWord N σ = J_Tokens_cutWord_44 N (nI p) (sF σ 3 (nI e)) := by
      rw [J_Tokens_cutWord, ax_let, h3, pu_letters N p σ h h3 (by omega) (by omega), he]
    have hM : ∀ (K : Int32 → Int32 → Int32 → Int32 → St → Option St) (l1 : Int32), J_Mod_cut_42 N K l1 (nI p) (nI kn) τ = (if (nI e - nI p) ≤ 6 then ax_bind (J_Mod_wordKind N (nI p) (nI e) τ) (fun r7 σ9 => J_Mod_cut_105 N K r7 l1 (nI p) (nI kn) (nI e) 0 σ9) else J_Mod_cut_105 N K 0 l1 (nI p) (nI kn) (nI e) 0 τ) := by
      intro K l1
      rw [J_Mod_cut_42, m1, if_pos hlt, pu_mL hm (by omega), ax_bs, if_pos (show p < n ∧ isL (t p) = true from ⟨hp, hL⟩), if_neg (by decide), pu_mletters hm N p (by omega) (by omega), he]
    rw [pk_sub hge] at hM
    rcases Nat.lt_or_ge 6 (e - p) with z | z
    · refine ⟨1, 0, 0, e, kn, sF σ 3 (nI e), τ, V, hgt, by omega, hcT ?_, by decide, fun K l1 => ?_, rfl, fun k hk => if_neg hk, fun _ _ => rfl, fun _ _ => rfl, rfl, fun _ _ => rfl, fun _ _ => rfl, Nat.le_refl _, by omega, fun _ _ => rfl, hV, Or.inr (Or.inr (Or.inr (Or.inr ⟨rfl, rfl, rfl⟩)))⟩
      · rw [hW, J_Tokens_cutWord_44, show (sF σ 3 (nI e)).1 3 = nI e from rfl, pk_sub hge, if_neg (show ¬ nI (e - p) ≤ 6 from nI_ge (a := 6) z (by omega)), ax_bs]
      · rw [hM, if_neg (show ¬ nI (e - p) ≤ 6 from nI_ge (a := 6) z (by omega)), J_Mod_cut_105, if_neg (by decide)]
    · obtain ⟨kc, km, hr, g1, g2⟩ := pu_word (N := N) (σ := sF σ 3 (nI e)) (by omega) h hm hkeys rfl hf hf49 (by omega) hge z hl
      have hcT2 : J_Tokens_cutToken N σ = some (kc, sA (sF σ 3 (nI e)) 4 f (nI (encW (wOf t p e)))) := hcT (by rw [hW, g1, ax_bs])
      have hM2 : ∀ (K : Int32 → Int32 → Int32 → Int32 → St → Option St) (l1 : Int32), J_Mod_cut_42 N K l1 (nI p) (nI kn) τ = J_Mod_cut_105 N K km l1 (nI p) (nI kn) (nI e) 0 τ := by
        intro K l1
        rw [hM, if_pos (show nI (e - p) ≤ 6 from nI_le (b := 6) z (by decide)), g2, ax_bs]
      have fr4 : (sA (sF σ 3 (nI e)) 4 f (nI (encW (wOf t p e)))).2 4 f = nI (encW (wOf t p e)) := by rw [sA_self, pk_us]
      have fo : ∀ j, j ≠ f → (sA (sF σ 3 (nI e)) 4 f (nI (encW (wOf t p e)))).2 4 j = σ.2 4 j := fun j hj => by rw [sA_self, pk_un hj]; rfl
      rcases hr with ⟨r1, r2⟩ | ⟨i, hi, r1, r2⟩
      · -- a name
        subst r1 r2
        have hno := pu_nameOf (N := N) (kn := kn) hN hm (by omega) hge z hl (by omega) hV N 0 (by omega) (by omega)
        rw [nI_0] at hno
        rcases hno with ⟨k2, -, b2, b3, b5, b4⟩ | ⟨b1, τ2, b2, b3, b4, b5, b6⟩
        · have een : encW (wOf t p e) = encW (V k2) := by
            unfold encW
            rw [b3 0 (by omega), b3 1 (by omega), b3 2 (by omega), b3 3 (by omega), b3 4 (by omega), b3 5 (by omega)]
          refine ⟨3, 2, nI k2, e, kn, _, τ, V, hgt, by omega, hcT2, by decide, fun K l1 => ?_, rfl, fun k hk => if_neg hk, fun k hk => sA_ne _ _ _ hk, fo, rfl, fun _ _ => rfl, fun _ _ => rfl, Nat.le_refl _, by omega, fun _ _ => rfl, hV, ?_⟩
          · rw [hM2, J_Mod_cut_105, if_pos rfl, J_Mod_nameOf, b4, ax_bs, if_neg (pu_eqd (by omega) (by omega) (by omega))]
          · refine Or.inr (Or.inr (Or.inl ⟨rfl, rfl, k2, rfl, ?_, b2, Or.inl ⟨b2, rfl⟩, fun k hk w => b5 k (Nat.zero_le _) hk (fun j hj => (w j hj).trans (b3 j hj))⟩))
            rw [fr4, een]
        · refine ⟨3, 2, nI kn, e, kn + 1, _, τ2, fun k => if k = kn then wOf t p e else V k, hgt, by omega, hcT2, by decide, fun K l1 => ?_, rfl, fun k hk => if_neg hk, fun k hk => sA_ne _ _ _ hk, fo, b3, b4, b5, by omega, Nat.le_refl _, fun k hk => if_neg (by omega), fun k hk => ?_, ?_⟩
          · rw [hM2, J_Mod_cut_105, if_pos rfl, J_Mod_nameOf, b2, ax_bs, if_pos rfl, ax_let, nI_1]
          · by_cases ek : k = kn
            · subst ek
              simp only [if_true]
              exact ⟨(wOf_isW hl).le, b6⟩
            · simp only [if_neg ek]
              obtain ⟨a1, a2⟩ := hV k (by omega)
              exact ⟨a1, fun i hi => by rw [b5 _ (by omega)]; exact a2 i hi⟩
          · refine Or.inr (Or.inr (Or.inl ⟨rfl, rfl, kn, rfl, ?_, by omega, Or.inr ⟨rfl, rfl⟩, fun k hk => ?_⟩))
            · rw [fr4]; simp only [if_true]
            · simp only [if_neg (show ¬ k = kn by omega), if_true]
              exact b1 k (Nat.zero_le _) hk
      · refine ⟨kc, km, 0, e, kn, _, τ, V, hgt, by omega, hcT2, ?_, fun K l1 => ?_, rfl, fun k hk => if_neg hk, fun k hk => sA_ne _ _ _ hk, fo, rfl, fun _ _ => rfl, fun _ _ => rfl, Nat.le_refl _, by omega, fun _ _ => rfl, hV, Or.inr (Or.inl ⟨i, hi, r1, r2, rfl⟩)⟩
        · rw [r1]; exact nI_ne0 (by omega) (by omega)
        · have hm2 : ∀ i, i < 17 → ¬ nI (wdM i) = 2 := by decide
          rw [hM2, J_Mod_cut_105, if_neg (by rw [r2]; exact hm2 i hi)]
  rw [if_neg hL, if_pos rfl, h3, if_pos hi48, hcl, e1, pu_isD c2, ax_bs] at hcT
  have hM0 : ∀ (K : Int32 → Int32 → Int32 → Int32 → St → Option St) (l1 : Int32), J_Mod_cut_42 N K l1 (nI p) (nI kn) τ = ax_bind (J_Mod_digit N (nI p) τ) (fun r2 σ4 =>
  (if r2 = 0 then
  ax_let (((nI p) + 1) : Int32) (fun v3 =>
  (if (inB (nI p) 48) = true then ax_bind (J_Mod_sign N (σ4.2 0 (nI p).toNatClampNeg) σ4) (fun r3 σ5 =>
  (if r3 = 0 then
  J_Mod_cut_263 N K 0 l1 (nI p) (nI kn) v3 0 σ5
  else (if (inB (nI p) 48) = true then J_Mod_cut_263 N K (σ5.2 0 (nI p).toNatClampNeg) l1 (nI p) (nI kn) v3 0 σ5 else none))) else none))
  else J_Mod_cut_143 N K N l1 (nI p) (nI kn) (nI p) σ4)) := by
    intro K l1
    rw [J_Mod_cut_42, m1, if_pos hlt, pu_mL hm (by omega), ax_bs, if_neg (show ¬ (p < n ∧ isL (t p) = true) from fun w => hL w.2), if_pos rfl]
  by_cases hD : isD (t p) = true
  · -- a number
    rw [if_pos hD, if_neg (by decide)] at hcT
    have hge := endP_ge isD t (n - p) p
    have hle := endP_le isD t (n - p) p
    have hall := endP_all isD t (n - p) p
    have hgt : p < endP isD t (n - p) p := by
      rw [show n - p = (n - (p + 1)) + 1 by omega, endP, if_pos hD]
      have := endP_ge isD t (n - (p + 1)) (p + 1)
      omega
    generalize hq : endP isD t (n - p) p = q at hge hle hall hgt
    have dig : ∀ j, isD (t j) = true → 48 ≤ t j ∧ t j ≤ 57 := by
      intro j a
      simp only [isD, Bool.and_eq_true, decide_eq_true_eq] at a
      exact a
    have hd1 : ∀ j, p ≤ j → j < q → 48 ≤ t j ∧ t j ≤ 57 := fun j a b => dig j (hall j a b)
    -- where it ends
    obtain ⟨e, he1, he2, hd2, hcl87, hmod⟩ : ∃ e : Nat, (q = e ∨ q + 2 ≤ e) ∧ e ≤ n ∧ (∀ j, q + 1 ≤ j → j < e → 48 ≤ t j ∧ t j ≤ 57) ∧ J_Tokens_cutNumber N σ = J_Tokens_cutNumber_87 N (nI (e - (q + 1))) (nI p) (nI q) (sF σ 3 (nI e)) ∧ (∀ (K : Int32 → Int32 → Int32 → Int32 → St → Option St) (l1 : Int32), J_Mod_cut_42 N K l1 (nI p) (nI kn) τ = J_Mod_cut_212 N K l1 (nI p) (nI kn) (nI e) (nI q) τ) := by
      have hM1 : ∀ (K : Int32 → Int32 → Int32 → Int32 → St → Option St) (l1 : Int32), J_Mod_cut_42 N K l1 (nI p) (nI kn) τ = (if q + 1 < n ∧ t q = 46 ∧ isD (t (q + 1)) = true then J_Mod_cut_197 N K N l1 (nI p) (nI kn) (nI (q + 1)) (nI q) τ else J_Mod_cut_212 N K l1 (nI p) (nI kn) (nI q) (nI q) τ) := by
        intro K l1
        rw [hM0, pu_mD hm (by omega), ax_bs, if_pos (show p < n ∧ isD (t p) = true from ⟨hp, hD⟩), if_neg (by decide), pu_mdigits1 hm N p (by omega) (by omega), hq]
      have h50 : J_Tokens_cutNumber_50 N (nI p) (nI q) σ = J_Tokens_cutNumber_87 N (nI (q - (q + 1))) (nI p) (nI q) (sF σ 3 (nI q)) := by
        rw [J_Tokens_cutNumber_50, J_Tokens_cutNumber_51, if_pos rfl, J_Tokens_cutNumber_68, ax_let, if_pos rfl, show q - (q + 1) = 0 by omega, nI_0]
      have hE : J_Tokens_endOfDigits N (nI p) σ = some (nI q, σ) := by
        rw [J_Tokens_endOfDigits, pu_digits h N p (by omega) (by omega), hq]
      by_cases hpt : q + 1 < n ∧ t q = 46 ∧ isD (t (q + 1)) = true
      · obtain ⟨p1, p2, p3⟩ := hpt
        obtain ⟨x1, y1, y2⟩ := h2 q (by omega)
        obtain ⟨x2, y3, y4⟩ := h2 (q + 1) p1
        have hgt2 : q + 1 < endP isD t (n - (q + 1)) (q + 1) := by
          rw [show n - (q + 1) = (n - (q + 1 + 1)) + 1 by omega, endP, if_pos p3]
          have := endP_ge isD t (n - (q + 1 + 1)) (q + 1 + 1)
          omega
        have hle2 := endP_le isD t (n - (q + 1)) (q + 1)
        refine ⟨endP isD t (n - (q + 1)) (q + 1), Or.inr (by omega), by omega, fun j a b => dig j (endP_all isD t _ _ j a b), ?_, fun K l1 => ?_⟩
        · rw [J_Tokens_cutNumber, ax_let, h3, hE, ax_bs, h1, nI_1, if_neg (nI_ge p1 (by omega)), if_pos (pu_inB (by omega) (by decide)), nI_clamp (by omega), x1, if_pos (show nI (t q) = 46 by rw [p2]; rfl), if_pos (pu_inB (by omega) (by decide)), nI_clamp (by omega), x2, pu_isD y4, ax_bs, if_pos p3, if_neg (by decide), J_Tokens_cutNumber_51, if_neg (by decide), nI_1, J_Tokens_endOfDigits, pu_digits h N (q + 1) (by omega) (by omega), ax_bs, J_Tokens_cutNumber_68, ax_let, if_neg (by decide), show ∀ v, (sF σ 3 v).1 3 = v from fun _ => rfl, pk_sub (by omega), show endP isD t (n - (q + 1)) (q + 1) - q = (endP isD t (n - (q + 1)) (q + 1) - (q + 1)) + 1 by omega, nI_pred]
        · rw [hM1, if_pos ⟨p1, p2, p3⟩, pu_mdigits2 hm N (q + 1) (by omega) (by omega)]
      · refine ⟨q, Or.inl rfl, by omega, fun j a b => by omega, ?_, fun K l1 => by rw [hM1, if_neg hpt]⟩
        rw [← h50, J_Tokens_cutNumber, ax_let, h3, hE, ax_bs, h1, nI_1]
        rcases Nat.lt_or_ge (q + 1) n with z | z
        · obtain ⟨x1, y1, y2⟩ := h2 q (by omega)
          obtain ⟨x2, y3, y4⟩ := h2 (q + 1) z
          rw [if_neg (nI_ge z (by omega)), if_pos (pu_inB (by omega) (by decide)), nI_clamp (by omega), x1]
          by_cases z2 : t q = 46
          · have z3 : ¬ isD (t (q + 1)) = true := fun w => hpt ⟨z, z2, w⟩
            rw [if_pos (show nI (t q) = 46 by rw [z2]; rfl), if_pos (pu_inB (by omega) (by decide)), nI_clamp (by omega), x2, pu_isD y4, ax_bs, if_neg z3, if_pos rfl]
          · rw [if_neg (show ¬ nI (t q) = 46 from pu_eqd (c := 46) (by omega) (by decide) z2)]
        · rw [if_pos (nI_le z (by omega))]
    have hqe : q ≤ e := by rcases he1 with w | w <;> omega
    have hmn := pu_mnum (N := N) (by omega) hm hge he1 he2 rfl hd1 hd2
    rcases pu_num87 (N := N) (σ := sF σ 3 (nI e)) (by omega) h rfl hf hf49 hge hqe he2 rfl hd1 hd2 with ⟨bad, g1⟩ | ⟨ok, g1⟩
    · rcases hmn with ⟨-, g2⟩ | ⟨nb, -, -⟩
      · refine ⟨1, 0, -1, e, kn, sF σ 3 (nI e), τ, V, by omega, he2, hcT (by rw [hcl87, g1, ax_bs]), by decide, fun K l1 => ?_, rfl, fun k hk => if_neg hk, fun _ _ => rfl, fun _ _ => rfl, rfl, fun _ _ => rfl, fun _ _ => rfl, Nat.le_refl _, by omega, fun _ _ => rfl, hV, Or.inr (Or.inr (Or.inr (Or.inr ⟨rfl, rfl, rfl⟩)))⟩
        rw [hmod, J_Mod_cut_212, g2, ax_bs, if_neg (by decide), J_Mod_cut_233]
      · exact absurd bad nb
    · rcases hmn with ⟨nb, -⟩ | ⟨-, hv, g2⟩
      · exact absurd nb ok
      · refine ⟨2, 1, nI (numVal t p q (e - (q + 1))), e, kn, sA (sF σ 3 (nI e)) 4 f (nI (numVal t p q (e - (q + 1)))), τ, V, by omega, he2, hcT (by rw [hcl87, g1, ax_bs]), by decide, fun K l1 => ?_, rfl, fun k hk => if_neg hk, fun k hk => sA_ne _ _ _ hk, fun j hj => by rw [sA_self, pk_un hj]; rfl, rfl, fun _ _ => rfl, fun _ _ => rfl, Nat.le_refl _, by omega, fun _ _ => rfl, hV, Or.inl ⟨rfl, rfl, by rw [sA_self, pk_us], rfl⟩⟩
        rw [hmod, J_Mod_cut_212, g2, ax_bs, if_pos (nI_pos' hv), J_Mod_cut_233]
  · -- a sign, or none
    rw [if_neg hD, if_pos rfl, h3, if_pos hi48, hcl, e1, ax_let, ax_let, nI_1] at hcT
    obtain ⟨r, g1, g2⟩ := pu_sign (N := N) (c := t p) (σ := sF σ 3 (nI (p + 1))) (by omega) c2
    rw [g1, ax_bs] at hcT
    have hM1 : ∀ (K : Int32 → Int32 → Int32 → Int32 → St → Option St) (l1 : Int32), J_Mod_cut_42 N K l1 (nI p) (nI kn) τ = J_Mod_cut_265 N K l1 (nI p) (nI kn) (nI (p + 1)) (if isS (t p) = true then nI (t p) else 0) 0 τ := by
      intro K l1
      rw [hM0, pu_mD hm (by omega), ax_bs, if_neg (show ¬ (p < n ∧ isD (t p) = true) from fun w => hD w.2), if_pos rfl, ax_let, if_pos hi48, hcl, e2, pu_msgn, ax_bs, sgnB_isS _ c2, nI_1]
      by_cases z : isS (t p) = true
      · rw [if_pos z, if_neg (by decide), if_pos hi48, e2, J_Mod_cut_263, if_pos z]
      · rw [if_neg z, if_pos rfl, J_Mod_cut_263, if_neg z]
    by_cases z : isS (t p) = true
    · refine ⟨nI (t p), nI (t p), 0, p + 1, kn, sF σ 3 (nI (p + 1)), τ, V, by omega, by omega, hcT (by rw [if_neg (fun w => g2.mp w z)]), nI_ne0 (by omega) (by omega), fun K l1 => by rw [hM1, if_pos z], rfl, fun k hk => if_neg hk, fun _ _ => rfl, fun _ _ => rfl, rfl, fun _ _ => rfl, fun _ _ => rfl, Nat.le_refl _, by omega, fun _ _ => rfl, hV, Or.inr (Or.inr (Or.inr (Or.inl ⟨t p, z, c2, rfl, rfl, rfl⟩)))⟩
    · refine ⟨1, 0, 0, p + 1, kn, sF σ 3 (nI (p + 1)), τ, V, by omega, by omega, hcT (by rw [if_pos (g2.mpr z)]), by decide, fun K l1 => by rw [hM1, if_neg z], rfl, fun k hk => if_neg hk, fun _ _ => rfl, fun _ _ => rfl, rfl, fun _ _ => rfl, fun _ _ => rfl, Nat.le_refl _, by omega, fun _ _ => rfl, hV, Or.inr (Or.inr (Or.inr (Or.inr ⟨rfl, rfl, rfl⟩)))⟩
