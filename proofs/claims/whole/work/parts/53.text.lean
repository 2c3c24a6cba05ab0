/-! PURE ROWS 4: the text and its runs of letters, digits, blanks. -/
def isL (c : Nat) : Bool := decide (97 ≤ c) && decide (c ≤ 122)
def isD (c : Nat) : Bool := decide (48 ≤ c) && decide (c ≤ 57)
def isB (c : Nat) : Bool := decide (c = 32)
/-- where a run of such characters ends, k characters being left -/
def endP (P : Nat → Bool) (t : Nat → Nat) : Nat → Nat → Nat
  | 0, p => p
  | k + 1, p => if P (t p) = true then endP P t k (p + 1) else p
theorem endP_ge (P : Nat → Bool) (t : Nat → Nat) : ∀ k p, p ≤ endP P t k p := by
  intro k
  induction k with
  | zero => intro p; exact Nat.le_refl _
  | succ k ih =>
    intro p
    rw [endP]
    by_cases h : P (t p) = true
    · rw [if_pos h]; have := ih (p + 1); omega
    · rw [if_neg h]; exact Nat.le_refl _
theorem endP_le (P : Nat → Bool) (t : Nat → Nat) : ∀ k p, endP P t k p ≤ p + k := by
  intro k
  induction k with
  | zero => intro p; exact Nat.le_refl _
  | succ k ih =>
    intro p
    rw [endP]
    by_cases h : P (t p) = true
    · rw [if_pos h]; have := ih (p + 1); omega
    · rw [if_neg h]; omega
theorem endP_all (P : Nat → Bool) (t : Nat → Nat) : ∀ k p j, p ≤ j → j < endP P t k p → P (t j) = true := by
  intro k
  induction k with
  | zero => intro p j h1 h2; rw [endP] at h2; omega
  | succ k ih =>
    intro p j h1 h2
    rw [endP] at h2
    by_cases h : P (t p) = true
    · rw [if_pos h] at h2
      by_cases e : j = p
      · rw [e]; exact h
      · exact ih (p + 1) j (by omega) h2
    · rw [if_neg h] at h2; omega
/-- the class's text: n characters t -/
def tC (σ : St) (n : Nat) (t : Nat → Nat) : Prop := n ≤ 48 ∧ σ.1 1 = nI n ∧ ∀ j, j < n → σ.2 1 j = nI (t j) ∧ 32 ≤ t j ∧ t j ≤ 126
/-- the reference's text -/
def tM (τ : St) (n : Nat) (t : Nat → Nat) : Prop := n ≤ 48 ∧ τ.1 0 = nI n ∧ ∀ j, j < n → τ.2 0 j = nI (t j) ∧ 32 ≤ t j ∧ t j ≤ 126
theorem pu_isL {N c : Nat} (h : c ≤ 126) (σ : St) : J_Tokens_isLetter N (nI c) σ = some (if isL c = true then 1 else 0, σ) := by
  rw [J_Tokens_isLetter]
  unfold isL
  rcases Nat.lt_or_ge c 97 with q | q
  · rw [if_pos (show nI c < 97 from nI_lt (b := 97) q (by decide)), if_neg (by simp; omega)]
  · rw [if_neg (show ¬ nI c < 97 from nI_nlt (b := 97) q (by omega))]
    rcases Nat.lt_or_ge 122 c with z | z
    · rw [if_pos (show (122 : Int32) < nI c from nI_lt (a := 122) z (by omega)), if_neg (by simp; omega)]
    · rw [if_neg (show ¬ (122 : Int32) < nI c from nI_nlt (a := 122) z (by decide)), if_pos (by simp; omega)]
theorem pu_isD {N c : Nat} (h : c ≤ 126) (σ : St) : J_Tokens_isDigit N (nI c) σ = some (if isD c = true then 1 else 0, σ) := by
  rw [J_Tokens_isDigit]
  unfold isD
  rcases Nat.lt_or_ge c 48 with q | q
  · rw [if_pos (show nI c < 48 from nI_lt (b := 48) q (by decide)), if_neg (by simp; omega)]
  · rw [if_neg (show ¬ nI c < 48 from nI_nlt (b := 48) q (by omega))]
    rcases Nat.lt_or_ge 57 c with z | z
    · rw [if_pos (show (57 : Int32) < nI c from nI_lt (a := 57) z (by omega)), if_neg (by simp; omega)]
    · rw [if_neg (show ¬ (57 : Int32) < nI c from nI_nlt (a := 57) z (by decide)), if_pos (by simp; omega)]
theorem pu_mL {N n p : Nat} {τ : St} {t : Nat → Nat} (h : tM τ n t) (hp : p ≤ 48) : J_Mod_letter N (nI p) τ = some (if p < n ∧ isL (t p) = true then 1 else 0, τ) := by
  obtain ⟨hn, h1, h2⟩ := h
  rw [J_Mod_letter, h1]
  rcases Nat.lt_or_ge p n with q | q
  · obtain ⟨e, c1, c2⟩ := h2 p q
    have hi : inB (nI p) 48 = true := pu_inB (by omega) (by decide)
    rw [if_neg (nI_ge q (by omega)), if_pos hi, nI_clamp (by omega), e]
    unfold isL
    rcases Nat.lt_or_ge (t p) 97 with z | z
    · rw [if_pos (show nI (t p) < 97 from nI_lt (b := 97) z (by decide)), if_neg (by simp; omega)]
    · rw [if_neg (show ¬ nI (t p) < 97 from nI_nlt (b := 97) z (by omega)), if_pos hi]
      rcases Nat.lt_or_ge 122 (t p) with z2 | z2
      · rw [if_pos (show (122 : Int32) < nI (t p) from nI_lt (a := 122) z2 (by omega)), if_neg (by simp; omega)]
      · rw [if_neg (show ¬ (122 : Int32) < nI (t p) from nI_nlt (a := 122) z2 (by decide)), if_pos (by simp; omega)]
  · rw [if_pos (nI_le q (by omega)), if_neg (by omega)]
theorem pu_mD {N n p : Nat} {τ : St} {t : Nat → Nat} (h : tM τ n t) (hp : p ≤ 48) : J_Mod_digit N (nI p) τ = some (if p < n ∧ isD (t p) = true then 1 else 0, τ) := by
  obtain ⟨hn, h1, h2⟩ := h
  rw [J_Mod_digit, h1]
  rcases Nat.lt_or_ge p n with q | q
  · obtain ⟨e, c1, c2⟩ := h2 p q
    have hi : inB (nI p) 48 = true := pu_inB (by omega) (by decide)
    rw [if_neg (nI_ge q (by omega)), if_pos hi, nI_clamp (by omega), e]
    unfold isD
    rcases Nat.lt_or_ge (t p) 48 with z | z
    · rw [if_pos (show nI (t p) < 48 from nI_lt (b := 48) z (by decide)), if_neg (by simp; omega)]
    · rw [if_neg (show ¬ nI (t p) < 48 from nI_nlt (b := 48) z (by omega)), if_pos hi]
      rcases Nat.lt_or_ge 57 (t p) with z2 | z2
      · rw [if_pos (show (57 : Int32) < nI (t p) from nI_lt (a := 57) z2 (by omega)), if_neg (by simp; omega)]
      · rw [if_neg (show ¬ (57 : Int32) < nI (t p) from nI_nlt (a := 57) z2 (by decide)), if_pos (by simp; omega)]
  · rw [if_pos (nI_le q (by omega)), if_neg (by omega)]
theorem upd_upd (f : Nat → Int32) (k : Nat) (a b : Int32) : upd (upd f k a) k b = upd f k b := by
  funext j
  unfold upd
  by_cases h : j = k
  · simp only [if_pos h]
  · simp only [if_neg h]
theorem sF_sF (σ : St) (k : Nat) (a b : Int32) : sF (sF σ k a) k b = sF σ k b := by
  show (upd (upd σ.1 k a) k b, σ.2) = _
  rw [upd_upd]
  rfl
theorem ax_bs {α : Type} {r : Int32} {σ : St} {f : Int32 → St → Option α} : ax_bind (some (r, σ)) f = f r σ := rfl
theorem ax_bsV {α : Type} {σ : St} {f : St → Option α} : ax_bindV (some σ) f = f σ := rfl
theorem sF_id (σ : St) (k : Nat) (a : Int32) (h : σ.1 k = a) : sF σ k a = σ := by
  unfold sF
  have e : upd σ.1 k a = σ.1 := by
    funext j
    unfold upd
    by_cases h2 : j = k
    · rw [if_pos h2, h2, h]
    · rw [if_neg h2]
  rw [e]
theorem tC.sF3 {σ : St} {n : Nat} {t : Nat → Nat} (h : tC σ n t) (v : Int32) : tC (sF σ 3 v) n t := h
/-- the class: a run of digits -/
theorem pu_digits {N n : Nat} {σ : St} {t : Nat → Nat} (h : tC σ n t) : ∀ (m p : Nat), p ≤ n → n - p < m → J_Tokens_endOfDigits_2 N m (nI p) σ = some (nI (endP isD t (n - p) p), σ) := by
  obtain ⟨hn, h1, h2⟩ := h
  intro m
  induction m with
  | zero => intro p _ h; omega
  | succ m ih =>
    intro p hp hm
    rw [J_Tokens_endOfDigits_2, h1]
    rcases Nat.lt_or_ge p n with q | q
    · obtain ⟨e, c1, c2⟩ := h2 p q
      rw [if_neg (nI_ge q (by omega)), if_pos (pu_inB (by omega) (by decide)), nI_clamp (by omega), e, pu_isD c2]
      simp only [ax_bind, ax_let]
      rw [show n - p = (n - (p + 1)) + 1 by omega, endP]
      by_cases z : isD (t p) = true
      · rw [if_pos z, if_neg (by decide), if_pos z, nI_1, ih (p + 1) (by omega) (by omega)]
      · rw [if_neg z, if_pos rfl, if_neg z]
    · rw [if_pos (nI_le q (by omega)), show n - p = 0 by omega, endP]
/-- the class: a run of letters moves 'next' -/
theorem pu_letters {N n s : Nat} {t : Nat → Nat} : ∀ (m p : Nat) (σ : St), tC σ n t → σ.1 3 = nI p → p ≤ n → n - p < m → J_Tokens_cutWord_5 N m (nI s) σ = J_Tokens_cutWord_44 N (nI s) (sF σ 3 (nI (endP isL t (n - p) p))) := by
  intro m
  induction m with
  | zero => intro p σ _ _ _ h; omega
  | succ m ih =>
    intro p σ h h3 hp hm
    obtain ⟨hn, h1, h2⟩ := id h
    rw [J_Tokens_cutWord_5, h1, h3]
    rcases Nat.lt_or_ge p n with q | q
    · obtain ⟨e, c1, c2⟩ := h2 p q
      rw [if_neg (nI_ge q (by omega)), if_pos (pu_inB (by omega) (by decide)), nI_clamp (by omega), e, pu_isL c2]
      simp only [ax_bind, ax_let]
      rw [show n - p = (n - (p + 1)) + 1 by omega, endP]
      by_cases z : isL (t p) = true
      · rw [if_pos z, if_neg (by decide), if_pos z, h3, nI_1, ih (p + 1) (sF σ 3 (nI (p + 1))) (h.sF3 _) rfl (by omega) (by omega), sF_sF]
      · rw [if_neg z, if_pos rfl, if_neg z, sF_id σ 3 _ h3]
    · rw [if_pos (nI_le q (by omega)), show n - p = 0 by omega, endP, sF_id σ 3 _ h3]
/-- the class: blanks -/
theorem pu_blanks {N n : Nat} {t : Nat → Nat} {K : St → Option St} : ∀ (m p : Nat) (σ : St), tC σ n t → σ.1 3 = nI p → p ≤ n → n - p < m → J_Tokens_cut_19 N K m σ = J_Tokens_cut_57 N K (sF σ 3 (nI (endP isB t (n - p) p))) := by
  intro m
  induction m with
  | zero => intro p σ _ _ _ h; omega
  | succ m ih =>
    intro p σ h h3 hp hm
    obtain ⟨hn, h1, h2⟩ := id h
    rw [J_Tokens_cut_19, h1, h3]
    rcases Nat.lt_or_ge p n with q | q
    · obtain ⟨e, c1, c2⟩ := h2 p q
      rw [if_neg (nI_ge q (by omega)), if_pos (pu_inB (by omega) (by decide)), nI_clamp (by omega), e]
      simp only [ax_let]
      rw [show n - p = (n - (p + 1)) + 1 by omega, endP]
      by_cases z : t p = 32
      · rw [if_pos (show nI (t p) = 32 by rw [z]; rfl), if_pos (show isB (t p) = true by simp [isB, z]), nI_1, ih (p + 1) (sF σ 3 (nI (p + 1))) (h.sF3 _) rfl (by omega) (by omega), sF_sF]
      · rw [if_neg (show ¬ nI (t p) = 32 from pu_eqd (c := 32) (by omega) (by decide) z), if_neg (show ¬ isB (t p) = true by simp [isB, z]), sF_id σ 3 _ h3]
    · rw [if_pos (nI_le q (by omega)), show n - p = 0 by omega, endP, sF_id σ 3 _ h3]
/-- the reference: blanks -/
theorem pu_mblanks {N n : Nat} {t : Nat → Nat} {τ : St} (h : tM τ n t) {K : Int32 → Int32 → Int32 → Int32 → St → Option St} {l1 l3 : Int32} : ∀ (m p : Nat), p ≤ n → n - p < m → J_Mod_cut_17 N K m l1 (nI p) l3 τ = J_Mod_cut_42 N K l1 (nI (endP isB t (n - p) p)) l3 τ := by
  obtain ⟨hn, h1, h2⟩ := id h
  intro m
  induction m with
  | zero => intro p _ h; omega
  | succ m ih =>
    intro p hp hm
    rw [J_Mod_cut_17, h1]
    rcases Nat.lt_or_ge p n with q | q
    · obtain ⟨e, c1, c2⟩ := h2 p q
      rw [if_neg (nI_ge q (by omega)), if_pos (pu_inB (by omega) (by decide)), nI_clamp (by omega), e]
      simp only [ax_let]
      rw [show n - p = (n - (p + 1)) + 1 by omega, endP]
      by_cases z : t p = 32
      · rw [if_pos (show nI (t p) = 32 by rw [z]; rfl), if_pos (show isB (t p) = true by simp [isB, z]), nI_1, ih (p + 1) (by omega) (by omega)]
      · rw [if_neg (show ¬ nI (t p) = 32 from pu_eqd (c := 32) (by omega) (by decide) z), if_neg (show ¬ isB (t p) = true by simp [isB, z])]
    · rw [if_pos (nI_le q (by omega)), show n - p = 0 by omega, endP]
/-- the reference: letters -/
theorem pu_mletters {N n s : Nat} {t : Nat → Nat} {τ : St} (h : tM τ n t) {K : Int32 → Int32 → Int32 → Int32 → St → Option St} {l1 l3 l7 : Int32} : ∀ (m p : Nat), p ≤ n → n - p < m → J_Mod_cut_70 N K m l1 (nI s) l3 (nI p) l7 τ = (if (nI (endP isL t (n - p) p) - nI s) ≤ 6 then ax_bind (J_Mod_wordKind N (nI s) (nI (endP isL t (n - p) p)) τ) (fun r7 σ9 => J_Mod_cut_105 N K r7 l1 (nI s) l3 (nI (endP isL t (n - p) p)) l7 σ9) else J_Mod_cut_105 N K 0 l1 (nI s) l3 (nI (endP isL t (n - p) p)) l7 τ) := by
  obtain ⟨hn, h1, h2⟩ := id h
  intro m
  induction m with
  | zero => intro p _ h; omega
  | succ m ih =>
    intro p hp hm
    rw [J_Mod_cut_70, pu_mL h (by omega)]
    rw [ax_bs]
    simp only [ax_let]
    rcases Nat.lt_or_ge p n with q | q
    · rw [show n - p = (n - (p + 1)) + 1 by omega, endP]
      by_cases z : isL (t p) = true
      · rw [if_pos (show p < n ∧ isL (t p) = true from ⟨q, z⟩), if_neg (by decide), if_pos z, nI_1, ih (p + 1) (by omega) (by omega)]
      · rw [if_neg (show ¬ (p < n ∧ isL (t p) = true) from fun w => z w.2), if_pos rfl, if_neg z]
    · rw [if_neg (show ¬ (p < n ∧ isL (t p) = true) from fun w => by omega), if_pos rfl, show n - p = 0 by omega, endP]
/-- the reference: digits before the point -/
theorem pu_mdigits1 {N n s : Nat} {t : Nat → Nat} {τ : St} (h : tM τ n t) {K : Int32 → Int32 → Int32 → Int32 → St → Option St} {l1 l3 : Int32} : ∀ (m p : Nat), p ≤ n → n - p < m → J_Mod_cut_143 N K m l1 (nI s) l3 (nI p) τ = (if endP isD t (n - p) p + 1 < n ∧ t (endP isD t (n - p) p) = 46 ∧ isD (t (endP isD t (n - p) p + 1)) = true then J_Mod_cut_197 N K N l1 (nI s) l3 (nI (endP isD t (n - p) p + 1)) (nI (endP isD t (n - p) p)) τ else J_Mod_cut_212 N K l1 (nI s) l3 (nI (endP isD t (n - p) p)) (nI (endP isD t (n - p) p)) τ) := by
  obtain ⟨hn, h1, h2⟩ := id h
  intro m
  induction m with
  | zero => intro p _ h; omega
  | succ m ih =>
    intro p hp hm
    rw [J_Mod_cut_143, pu_mD h (by omega)]
    rw [ax_bs]
    simp only [ax_let]
    rcases Nat.lt_or_ge p n with q | q
    · rw [show n - p = (n - (p + 1)) + 1 by omega, endP]
      by_cases z : isD (t p) = true
      · rw [if_pos (show p < n ∧ isD (t p) = true from ⟨q, z⟩), if_neg (by decide), if_pos z, nI_1, ih (p + 1) (by omega) (by omega)]
      · obtain ⟨e, c1, c2⟩ := h2 p q
        rw [if_neg (show ¬ (p < n ∧ isD (t p) = true) from fun w => z w.2), if_pos rfl, if_neg z, h1, if_neg (nI_ge q (by omega)), if_pos (pu_inB (by omega) (by decide)), nI_clamp (by omega), e]
        by_cases z2 : t p = 46
        · rw [if_pos (show nI (t p) = 46 by rw [z2]; rfl), nI_1, pu_mD h (by omega)]
          rw [ax_bs]
          by_cases z3 : p + 1 < n ∧ isD (t (p + 1)) = true
          · rw [if_pos z3, if_neg (by decide), if_pos (show p + 1 < n ∧ t p = 46 ∧ isD (t (p + 1)) = true from ⟨z3.1, z2, z3.2⟩)]
          · rw [if_neg z3, if_pos rfl, if_neg (show ¬ (p + 1 < n ∧ t p = 46 ∧ isD (t (p + 1)) = true) from fun w => z3 ⟨w.1, w.2.2⟩)]
        · rw [if_neg (show ¬ nI (t p) = 46 from pu_eqd (c := 46) (by omega) (by decide) z2), if_neg (show ¬ (p + 1 < n ∧ t p = 46 ∧ isD (t (p + 1)) = true) from fun w => z2 w.2.1)]
    · rw [if_neg (show ¬ (p < n ∧ isD (t p) = true) from fun w => by omega), if_pos rfl, show n - p = 0 by omega, endP, h1, if_pos (nI_le q (by omega)), if_neg (by omega)]
/-- the reference: digits behind the point -/
theorem pu_mdigits2 {N n s : Nat} {t : Nat → Nat} {τ : St} (h : tM τ n t) {K : Int32 → Int32 → Int32 → Int32 → St → Option St} {l1 l3 l8 : Int32} : ∀ (m p : Nat), p ≤ n → n - p < m → J_Mod_cut_197 N K m l1 (nI s) l3 (nI p) l8 τ = J_Mod_cut_212 N K l1 (nI s) l3 (nI (endP isD t (n - p) p)) l8 τ := by
  obtain ⟨hn, h1, h2⟩ := id h
  intro m
  induction m with
  | zero => intro p _ h; omega
  | succ m ih =>
    intro p hp hm
    rw [J_Mod_cut_197, pu_mD h (by omega)]
    rw [ax_bs]
    simp only [ax_let]
    rcases Nat.lt_or_ge p n with q | q
    · rw [show n - p = (n - (p + 1)) + 1 by omega, endP]
      by_cases z : isD (t p) = true
      · rw [if_pos (show p < n ∧ isD (t p) = true from ⟨q, z⟩), if_neg (by decide), if_pos z, nI_1, ih (p + 1) (by omega) (by omega)]
      · rw [if_neg (show ¬ (p < n ∧ isD (t p) = true) from fun w => z w.2), if_pos rfl, if_neg z]
    · rw [if_neg (show ¬ (p < n ∧ isD (t p) = true) from fun w => by omega), if_pos rfl, show n - p = 0 by omega, endP]
