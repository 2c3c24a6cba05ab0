/-! PURE ROWS 5: numbers. -/
def decN (t : Nat → Nat) : Nat → Nat → Nat → Nat
  | 0, _, a => a
  | k + 1, p, a => decN t k (p + 1) (a * 10 + (t p - 48))
theorem decN_lt (t : Nat → Nat) : ∀ (k p a : Nat), (∀ j, p ≤ j → j < p + k → t j ≤ 57) → decN t k p a < (a + 1) * 10 ^ k := by
  intro k
  induction k with
  | zero => intro p a _; rw [decN]; omega
  | succ k ih =>
    intro p a h
    rw [decN]
    have h1 := ih (p + 1) (a * 10 + (t p - 48)) (fun j h1 h2 => h j (by omega) (by omega))
    have h2 := h p (Nat.le_refl _) (by omega)
    calc decN t k (p + 1) (a * 10 + (t p - 48)) < (a * 10 + (t p - 48) + 1) * 10 ^ k := h1
      _ ≤ ((a + 1) * 10) * 10 ^ k := Nat.mul_le_mul_right _ (by omega)
      _ = (a + 1) * 10 ^ (k + 1) := by rw [Nat.pow_succ, Nat.mul_assoc, Nat.mul_comm 10]
theorem pu_acc1 {a c : Nat} (h : 48 ≤ c) : nI a * 10 + (nI c - 48) = nI (a * 10 + (c - 48)) := by
  rw [show (10 : Int32) = nI 10 from rfl, show (48 : Int32) = nI 48 from rfl, pk_mul, pk_sub h, nI_add]
theorem pu_acc2 {a c : Nat} (h : 48 ≤ c) : 10 * nI a + nI c - 48 = nI (a * 10 + (c - 48)) := by
  rw [show (10 : Int32) = nI 10 from rfl, show (48 : Int32) = nI 48 from rfl, pk_mul, nI_add, pk_sub (by omega), show 10 * a + c - 48 = a * 10 + (c - 48) by omega]
/-- the class: the digits from p up to q -/
theorem pu_dec {N n : Nat} {σ : St} {t : Nat → Nat} (h : tC σ n t) {q : Nat} (hq : q ≤ n) : ∀ (m p a : Nat), p ≤ 49 → q - p < m → (∀ j, p ≤ j → j < q → 48 ≤ t j) → J_Tokens_digitsFrom_5 N m (nI q) (nI a) (nI p) σ = some (nI (decN t (q - p) p a), σ) := by
  obtain ⟨hn, h1, h2⟩ := h
  intro m
  induction m with
  | zero => intro p a _ h; omega
  | succ m ih =>
    intro p a hp hm hd
    rw [J_Tokens_digitsFrom_5]
    rcases Nat.lt_or_ge p q with z | z
    · obtain ⟨e, c1, c2⟩ := h2 p (by omega)
      rw [if_neg (nI_ge z (by omega)), if_pos (pu_inB (by omega) (by decide)), nI_clamp (by omega), e]
      simp only [ax_let]
      rw [pu_acc1 (hd p (Nat.le_refl _) z), nI_1, ih (p + 1) _ (by omega) (by omega) (fun j h1 h2 => hd j (by omega) h2), show q - p = (q - (p + 1)) + 1 by omega, decN]
    · rw [if_pos (nI_le z (by omega)), show q - p = 0 by omega, decN]
/-- the reference: the digits behind the point, and the power of ten -/
theorem pu_mdec2 {N n : Nat} {τ : St} {t : Nat → Nat} (h : tM τ n t) {e : Nat} (he : e ≤ n) {w : Int32} : ∀ (m p a b : Nat), p ≤ 49 → e - p < m → (∀ j, p ≤ j → j < e → 48 ≤ t j) → J_Mod_numberOf_78 N m (nI e) w (nI a) (nI b) (nI p) τ = (if w ≤ 32767 then (if (nI (b * 10 ^ (e - p))).toInt64 = 0 then none else some ((w * 65536) + ((((nI (decN t (e - p) p a)).toInt64 * 65536) / (nI (b * 10 ^ (e - p))).toInt64).toInt32), τ)) else some (-1, τ)) := by
  obtain ⟨hn, h1, h2⟩ := h
  intro m
  induction m with
  | zero => intro p a b _ h; omega
  | succ m ih =>
    intro p a b hp hm hd
    rw [J_Mod_numberOf_78]
    rcases Nat.lt_or_ge p e with z | z
    · obtain ⟨e1, c1, c2⟩ := h2 p (by omega)
      rw [if_neg (nI_ge z (by omega)), if_pos (pu_inB (by omega) (by decide)), nI_clamp (by omega), e1]
      simp only [ax_let]
      rw [pu_acc2 (hd p (Nat.le_refl _) z), nI_1, show nI b * 10 = nI (b * 10) from pk_mul b 10, ih (p + 1) _ _ (by omega) (by omega) (fun j h1 h2 => hd j (by omega) h2), show e - p = (e - (p + 1)) + 1 by omega, decN, Nat.pow_succ, Nat.mul_comm (10 ^ (e - (p + 1))) 10, ← Nat.mul_assoc]
    · rw [if_pos (nI_le z (by omega)), show e - p = 0 by omega, decN, Nat.pow_zero, Nat.mul_one]
/-- the reference: the digits before the point -/
theorem pu_mdec1 {N n : Nat} {τ : St} {t : Nat → Nat} (h : tM τ n t) {q : Nat} (hq : q ≤ n) {l3 : Int32} : ∀ (m p a : Nat), p ≤ q → q - p < m → (∀ j, p ≤ j → j < q → 48 ≤ t j) → J_Mod_numberOf_37 N m (nI q) l3 (nI a) (nI p) τ = J_Mod_numberOf_78 N N l3 (nI (decN t (q - p) p a)) 0 1 (nI (q + 1)) τ := by
  obtain ⟨hn, h1, h2⟩ := h
  intro m
  induction m with
  | zero => intro p a _ h; omega
  | succ m ih =>
    intro p a hp hm hd
    rw [J_Mod_numberOf_37]
    rcases Nat.lt_or_ge p q with z | z
    · obtain ⟨e1, c1, c2⟩ := h2 p (by omega)
      rw [if_neg (nI_ge z (by omega)), if_pos (pu_inB (by omega) (by decide)), nI_clamp (by omega), e1]
      simp only [ax_let]
      rw [pu_acc2 (hd p (Nat.le_refl _) z), nI_1, ih (p + 1) _ (by omega) (by omega) (fun j h1 h2 => hd j (by omega) h2), show q - p = (q - (p + 1)) + 1 by omega, decN]
    · rw [if_pos (nI_le z (by omega)), show q - p = 0 by omega, decN]
      simp only [ax_let]
      rw [nI_1]
/-- a number that is no token: s where it begins, q where its first digits end, b digits behind the point -/
def numBad (t : Nat → Nat) (s q b : Nat) : Prop := 5 < q - s ∨ 4 < b ∨ 32767 < decN t (q - s) s 0
def numVal (t : Nat → Nat) (s q b : Nat) : Nat := decN t (q - s) s 0 * 65536 + decN t b (q + 1) 0 * 65536 / 10 ^ b
theorem pu_tens : ∀ b, b ≤ 4 → tTENS b = nI (10 ^ b) ∧ ¬ tTENS b = 0 ∧ 10 ^ b ≤ 10000 ∧ 0 < 10 ^ b := by decide
theorem numVal_lt {t : Nat → Nat} {s q b : Nat} (hb : b ≤ 4) (hd : ∀ j, q + 1 ≤ j → j < q + 1 + b → t j ≤ 57) : decN t b (q + 1) 0 < 10 ^ b ∧ decN t b (q + 1) 0 * 65536 / 10 ^ b < 65536 := by
  have h1 := decN_lt t b (q + 1) 0 hd
  rw [Nat.zero_add, Nat.one_mul] at h1
  refine ⟨h1, ?_⟩
  rw [Nat.div_lt_iff_lt_mul (pu_tens b hb).2.2.2, Nat.mul_comm]
  exact Nat.mul_lt_mul_of_pos_left h1 (by decide)
/-- the class's number, behind where it ends -/
theorem pu_num87 {N n s q e b f : Nat} {σ : St} {t : Nat → Nat} (hN : 100 ≤ N) (h : tC σ n t) (h3 : σ.1 3 = nI e) (hf : σ.1 2 = nI f) (hf49 : f < 49) (hsq : s ≤ q) (hqe : q ≤ e) (hen : e ≤ n) (hb : b = e - (q + 1)) (hd1 : ∀ j, s ≤ j → j < q → 48 ≤ t j ∧ t j ≤ 57) (hd2 : ∀ j, q + 1 ≤ j → j < e → 48 ≤ t j ∧ t j ≤ 57) :
    (numBad t s q b ∧ J_Tokens_cutNumber_87 N (nI b) (nI s) (nI q) σ = some (1, σ)) ∨ (¬ numBad t s q b ∧ J_Tokens_cutNumber_87 N (nI b) (nI s) (nI q) σ = some (2, sA σ 4 f (nI (numVal t s q b)))) := by
  have hn := h.1
  rw [J_Tokens_cutNumber_87, pk_sub hsq]
  rcases Nat.lt_or_ge 5 (q - s) with z1 | z1
  · exact Or.inl ⟨Or.inl z1, by rw [if_pos (show (5 : Int32) < nI (q - s) from nI_lt (a := 5) z1 (by omega))]⟩
  rw [if_neg (show ¬ (5 : Int32) < nI (q - s) from nI_nlt (a := 5) z1 (by decide))]
  rcases Nat.lt_or_ge 4 b with z2 | z2
  · exact Or.inl ⟨Or.inr (Or.inl z2), by rw [if_pos (show (4 : Int32) < nI b from nI_lt (a := 4) z2 (by omega))]⟩
  have hw := decN_lt t (q - s) s 0 (fun j h1 h2 => (hd1 j h1 (by omega)).2)
  have hp5 : 10 ^ (q - s) ≤ 10 ^ 5 := Nat.pow_le_pow_right (by decide) z1
  rw [Nat.zero_add, Nat.one_mul] at hw
  have D1 : J_Tokens_digitsFrom N (nI s) (nI q) σ = some (nI (decN t (q - s) s 0), σ) := by
    rw [J_Tokens_digitsFrom, show (0 : Int32) = nI 0 from nI_0.symm]
    exact pu_dec h (by omega) N s 0 (by omega) (by omega) (fun j h1 h2 => (hd1 j h1 h2).1)
  have D2 : J_Tokens_digitsFrom N (nI (q + 1)) (nI e) σ = some (nI (decN t (e - (q + 1)) (q + 1) 0), σ) := by
    rw [J_Tokens_digitsFrom, show (0 : Int32) = nI 0 from nI_0.symm]
    exact pu_dec h hen N (q + 1) 0 (by omega) (by omega) (fun j h1 h2 => (hd2 j h1 h2).1)
  rw [if_neg (show ¬ (4 : Int32) < nI b from nI_nlt (a := 4) z2 (by decide)), D1, ax_bs]
  rcases Nat.lt_or_ge 32767 (decN t (q - s) s 0) with z3 | z3
  · exact Or.inl ⟨Or.inr (Or.inr z3), by rw [if_neg (show ¬ nI (decN t (q - s) s 0) ≤ 32767 from nI_ge (a := 32767) z3 (by omega))]⟩
  · refine Or.inr ⟨fun w => by rcases w with w | w | w <;> omega, ?_⟩
    obtain ⟨g1, g2, g3, g4⟩ := pu_tens b z2
    have hv := numVal_lt (t := t) (s := s) (q := q) z2 (fun j h1 h2 => (hd2 j h1 (by omega)).2)
    rw [if_pos (show nI (decN t (q - s) s 0) ≤ 32767 from nI_le (b := 32767) z3 (by decide)), D1, ax_bs, h3, nI_1, D2, ax_bs, ← hb, if_pos (pu_inB (by omega) (by decide)), nI_clamp (by omega), if_neg g2, hf, if_pos (pu_inB hf49 (by decide)), nI_clamp (by omega), g1]
    simp only [ax_let]
    rw [show (65536 : Int32) = nI 65536 from rfl, pk_mul, pk_mul, pk_div (by omega) g4 (by omega), nI_add]
    rfl
/-- the reference's number -/
theorem pu_mnum {N n s q e b : Nat} {τ : St} {t : Nat → Nat} (hN : 100 ≤ N) (h : tM τ n t) (hsq : s ≤ q) (hqe : q = e ∨ q + 2 ≤ e) (hen : e ≤ n) (hb : b = e - (q + 1)) (hd1 : ∀ j, s ≤ j → j < q → 48 ≤ t j ∧ t j ≤ 57) (hd2 : ∀ j, q + 1 ≤ j → j < e → 48 ≤ t j ∧ t j ≤ 57) :
    (numBad t s q b ∧ J_Mod_numberOf N (nI s) (nI q) (nI e) τ = some (-1, τ)) ∨ (¬ numBad t s q b ∧ numVal t s q b < 2 ^ 31 ∧ J_Mod_numberOf N (nI s) (nI q) (nI e) τ = some (nI (numVal t s q b), τ)) := by
  have hn := h.1
  have hcase : J_Mod_numberOf N (nI s) (nI q) (nI e) τ = J_Mod_numberOf_14 N (nI b) (nI s) (nI q) (nI e) τ := by
    rw [J_Mod_numberOf]
    rcases hqe with z | z
    · rw [if_pos (nI_le (by omega) (by omega)), show b = 0 by omega, nI_0]
    · rw [if_neg (nI_ge (by omega) (by omega)), pk_sub (by omega), show nI (e - q) - 1 = nI b from by
        rw [show (1 : Int32) = nI 1 from rfl, pk_sub (by omega), show e - q - 1 = b by omega]]
  rw [hcase, J_Mod_numberOf_14, pk_sub hsq]
  rcases Nat.lt_or_ge 5 (q - s) with z1 | z1
  · exact Or.inl ⟨Or.inl z1, by rw [if_pos (show (5 : Int32) < nI (q - s) from nI_lt (a := 5) z1 (by omega))]⟩
  rw [if_neg (show ¬ (5 : Int32) < nI (q - s) from nI_nlt (a := 5) z1 (by decide))]
  rcases Nat.lt_or_ge 4 b with z2 | z2
  · exact Or.inl ⟨Or.inr (Or.inl z2), by rw [if_neg (show ¬ nI b ≤ 4 from nI_ge (a := 4) z2 (by omega))]⟩
  have hw := decN_lt t (q - s) s 0 (fun j h1 h2 => (hd1 j h1 (by omega)).2)
  have hp5 : 10 ^ (q - s) ≤ 10 ^ 5 := Nat.pow_le_pow_right (by decide) z1
  rw [Nat.zero_add, Nat.one_mul] at hw
  have D1 : J_Mod_numberOf_37 N N (nI q) (nI e) 0 (nI s) τ = J_Mod_numberOf_78 N N (nI e) (nI (decN t (q - s) s 0)) 0 1 (nI (q + 1)) τ := by
    have := pu_mdec1 (N := N) (l3 := nI e) h (show q ≤ n by omega) N s 0 hsq (by omega) (fun j h1 h2 => (hd1 j h1 h2).1)
    rw [nI_0] at this
    exact this
  have D2 := pu_mdec2 (N := N) (w := nI (decN t (q - s) s 0)) h hen N (q + 1) 0 1 (by omega) (by omega) (fun j h1 h2 => (hd2 j h1 h2).1)
  rw [nI_0, show nI 1 = 1 from rfl] at D2
  rw [if_pos (show nI b ≤ 4 from nI_le (b := 4) z2 (by decide)), D1, D2, ← hb, Nat.one_mul]
  rcases Nat.lt_or_ge 32767 (decN t (q - s) s 0) with z3 | z3
  · exact Or.inl ⟨Or.inr (Or.inr z3), by rw [if_neg (show ¬ nI (decN t (q - s) s 0) ≤ 32767 from nI_ge (a := 32767) z3 (by omega))]⟩
  · obtain ⟨g1, g2, g3, g4⟩ := pu_tens b z2
    have hv := numVal_lt (t := t) (s := s) (q := q) z2 (fun j h1 h2 => (hd2 j h1 (by omega)).2)
    have hvl : numVal t s q b < 2 ^ 31 := by unfold numVal; omega
    refine Or.inr ⟨fun w => by rcases w with w | w | w <;> omega, hvl, ?_⟩
    have e1 : (nI (10 ^ b)).toInt64 = lN (10 ^ b) := nI_l (by omega)
    have e2 : (nI (decN t b (q + 1) 0)).toInt64 = lN (decN t b (q + 1) 0) := nI_l (by omega)
    have e3 : ¬ lN (10 ^ b) = 0 := fun w => by
      have := (pk_lEQ (a := 10 ^ b) (b := 0) (by omega) (by omega)).mp w
      omega
    rw [if_pos (show nI (decN t (q - s) s 0) ≤ 32767 from nI_le (b := 32767) z3 (by decide)), e1, e2, if_neg e3, show (65536 : Int64) = lN 65536 from rfl, lN_mul, pk_lDiv (by omega) g4 (by omega), lN_i, show (65536 : Int32) = nI 65536 from rfl, pk_mul, nI_add]
    rfl
