/-! PURE ROWS 7: a word's key, its kind on both sides, the reference's table of names. -/
theorem nx_or (a b : Nat) : nI a ||| nI b = nI (a ||| b) := by
  apply Int32.toBitVec_inj.1
  show BitVec.ofNat 32 a ||| BitVec.ofNat 32 b = BitVec.ofNat 32 (a ||| b)
  apply BitVec.eq_of_getLsbD_eq
  intro i hi
  simp [hi]
/-- the letters of the word from s to e -/
def wOf (t : Nat → Nat) (s e : Nat) : Nat → Nat := fun j => if s + j < e then t (s + j) - 96 else 0
theorem wOf_isW {t : Nat → Nat} {s e : Nat} (h : ∀ j, s ≤ j → j < e → 97 ≤ t j ∧ t j ≤ 122) : isW (wOf t s e) (e - s) := by
  refine ⟨fun j hj => ?_, fun j hj => ?_⟩
  · unfold wOf
    rw [if_pos (by omega)]
    have := h (s + j) (by omega) (by omega)
    omega
  · unfold wOf
    rw [if_neg (by omega)]
def e32 (w : Nat → Nat) : Nat → Nat
  | 0 => 0
  | k + 1 => e32 w k * 32 + w k
theorem e32_6 (w : Nat → Nat) : e32 w 6 = encW w := by
  simp only [e32, encW]
  omega
theorem e32_lt {w : Nat → Nat} (h : ∀ j, w j ≤ 26) : ∀ k, e32 w k < 32 ^ k := by
  intro k
  induction k with
  | zero => exact Nat.zero_lt_one
  | succ k ih =>
    rw [e32, Nat.pow_succ]
    have := h k
    omega
theorem pu_or {a b : Nat} (ha : a < 2 ^ 25) (hb : b < 32) : (nI a <<< ((5 : Int32) &&& 31)) ||| nI b = nI (a * 32 + b) := by
  rw [pk_shlN ((5 : Int32) &&& 31) 5 (by decide) (by omega), nx_or]
  have := Nat.two_pow_add_eq_or_of_lt (i := 5) (b := b) (by omega) a
  rw [Nat.mul_comm a (2 ^ 5), ← this, show 2 ^ 5 * a + b = a * 32 + b by omega]
/-- the class: a word's key, then its kind -/
theorem pu_key {N n s e f : Nat} {σ : St} {t : Nat → Nat} (h : tC σ n t) (h3 : σ.1 3 = nI e) (hf : σ.1 2 = nI f) (hf49 : f < 49) (hen : e ≤ n) (hse : s ≤ e) (hk : e - s ≤ 6) (hl : ∀ j, s ≤ j → j < e → 97 ≤ t j ∧ t j ≤ 122) : ∀ (m i : Nat), i ≤ 6 → 6 - i < m → J_Tokens_cutWord_61 N m (nI s) (nI (e32 (wOf t s e) i)) (nI (s + i)) σ = ax_bind (J_Tokens_kindOfWord N (nI (encW (wOf t s e))) (sA σ 4 f (nI (encW (wOf t s e))))) (fun r2 σ4 => some (r2, σ4)) := by
  obtain ⟨hn, h1, h2⟩ := id h
  have hw := wOf_isW hl
  intro m
  induction m with
  | zero => intro i _ h; omega
  | succ m ih =>
    intro i hi hm
    rw [J_Tokens_cutWord_61, show nI s + 6 = nI (s + 6) from nI_add s 6]
    rcases Nat.lt_or_ge i 6 with q | q
    · have hlt := e32_lt hw.le i
      have h5 : 32 ^ i ≤ 32 ^ 5 := Nat.pow_le_pow_right (by decide) (by omega)
      rw [if_neg (nI_ge (by omega) (by omega)), h3]
      rcases Nat.lt_or_ge (s + i) e with z | z
      · obtain ⟨e1, c1, c2⟩ := h2 (s + i) (by omega)
        have c3 := hl (s + i) (by omega) z
        rw [if_neg (nI_ge z (by omega)), if_pos (pu_inB (by omega) (by decide)), nI_clamp (by omega), e1, J_Tokens_withLetter, ax_bs]
        simp only [ax_let]
        rw [pk_andN (n := t (s + i)) (m := 31) (k := 5) (by omega) (by decide), pu_or (by omega) (by omega), nI_1, Nat.add_assoc]
        have ew : wOf t s e i = t (s + i) % 2 ^ 5 := by
          unfold wOf
          rw [if_pos z]
          omega
        rw [← ew]
        exact ih (i + 1) (by omega) (by omega)
      · rw [if_pos (nI_le z (by omega)), J_Tokens_withLetter, ax_bs]
        simp only [ax_let]
        rw [show (32 : Int32) &&& 31 = nI 0 by decide, pu_or (by omega) (by omega), nI_1, Nat.add_assoc]
        have ew : wOf t s e i = 0 := by
          unfold wOf
          rw [if_neg (by omega)]
        have := ih (i + 1) (by omega) (by omega)
        rw [e32, ew] at this
        exact this
    · have e6 : i = 6 := by omega
      subst e6
      rw [if_pos (nI_le (Nat.le_refl _) (by omega)), hf, if_pos (pu_inB hf49 (by decide)), nI_clamp (by omega), e32_6]
      simp only [ax_let]
/-- the kinds of a word, class and reference -/
def wRel (kc km : Int32) : Prop := (kc = 3 ∧ km = 2) ∨ ∃ i, i < 17 ∧ kc = nI (4 + i) ∧ km = nI (wdM i)
theorem pu_n27 {t : Nat → Nat} {s e : Nat} (hl : ∀ j, s ≤ j → j < e → 97 ≤ t j ∧ t j ≤ 122) : ∀ k, s + k ≤ e → (List.range k).foldl (fun a i => 27 * a + nI (t (s + i)) - 97 + 1) 0 = nI (n27 (wOf t s e) k) := by
  intro k
  induction k with
  | zero => intro _; rfl
  | succ k ih =>
    intro hk
    have c := hl (s + k) (by omega) (by omega)
    rw [List.range_succ, List.foldl_append, ih (by omega), List.foldl_cons, List.foldl_nil, n27]
    have ew : wOf t s e k = t (s + k) - 96 := by
      unfold wOf
      rw [if_pos (by omega)]
    rw [ew, show (27 : Int32) = nI 27 from rfl, show (97 : Int32) = nI 97 from rfl, pk_mul, nI_add, pk_sub (by omega), nI_1, show 27 * n27 (wOf t s e) k + t (s + k) - 97 + 1 = 27 * n27 (wOf t s e) k + (t (s + k) - 96) by omega]
/-- a word of at most six letters, on both sides -/
theorem pu_word {N n s e f : Nat} {σ τ : St} {t : Nat → Nat} (hN : 100 ≤ N) (h : tC σ n t) (hm : tM τ n t) (hkeys : ∀ j, j < 17 → σ.2 0 j = tKEYS j) (h3 : σ.1 3 = nI e) (hf : σ.1 2 = nI f) (hf49 : f < 49) (hen : e ≤ n) (hse : s ≤ e) (hk : e - s ≤ 6) (hl : ∀ j, s ≤ j → j < e → 97 ≤ t j ∧ t j ≤ 122) :
    ∃ kc km : Int32, wRel kc km ∧ J_Tokens_cutWord_44 N (nI s) σ = some (kc, sA σ 4 f (nI (encW (wOf t s e)))) ∧ J_Mod_wordKind N (nI s) (nI e) τ = some (km, τ) := by
  have hn := h.1
  have hw := wOf_isW hl
  have hC : J_Tokens_cutWord_44 N (nI s) σ = ax_bind (J_Tokens_kindOfWord N (nI (encW (wOf t s e))) (sA σ 4 f (nI (encW (wOf t s e))))) (fun r2 σ4 => some (r2, σ4)) := by
    rw [J_Tokens_cutWord_44, h3, pk_sub hse, if_pos (show nI (e - s) ≤ 6 from nI_le (b := 6) hk (by decide))]
    have := pu_key (N := N) h h3 hf hf49 hen hse hk hl N 0 (by omega) (by omega)
    rw [e32, nI_0, Nat.add_zero] at this
    exact this
  have hM : J_Mod_wordKind N (nI s) (nI e) τ = some (mkind (nI (n27 (wOf t s e) (e - s))), τ) := by
    rw [J_Mod_wordKind, pu_mkind hm hen N s 0 hse (by omega), pu_n27 hl (e - s) (by omega)]
  have hlt : n27 (wOf t s e) (e - s) < 2 ^ 31 := by
    have a := n27_lt (w := wOf t s e) (e - s) hw.le
    have b : 27 ^ (e - s) ≤ 27 ^ 6 := Nat.pow_le_pow_right (by decide) hk
    omega
  have hk2 : ∀ j, j < 17 → (sA σ 4 f (nI (encW (wOf t s e)))).2 0 j = tKEYS j := hkeys
  have hK := pu_kind (N := N) (key := encW (wOf t s e)) hk2 N 0 (by omega) (by omega)
  rw [nI_0] at hK
  rcases hK with ⟨i, -, hi, g1, g2⟩ | ⟨g1, g2⟩
  · refine ⟨nI (4 + i), nI (wdM i), Or.inr ⟨i, hi, rfl, rfl⟩, ?_, ?_⟩
    · rw [hC, J_Tokens_kindOfWord, g2, ax_bs]
    · rw [hM, (wd_key hw hk hi).mp g1, mkind_in i hi]
  · refine ⟨3, 2, Or.inl ⟨rfl, rfl⟩, ?_, ?_⟩
    · rw [hC, J_Tokens_kindOfWord, g2, ax_bs]
    · rw [hM, mkind_out (fun i hi q => g1 i (Nat.zero_le _) hi ((wd_key hw hk hi).mpr ((nI_eq hlt (wd_small i hi)).mp q)))]
/-- a row of the reference's names: letters v -/
def rowIs (nt : Nat → Int32) (k : Nat) (v : Nat → Nat) : Prop := ∀ i, i < 6 → nt (6 * k + i) = if v i = 0 then 0 else nI (96 + v i)
theorem pu_6 (k i : Nat) : 6 * nI k + nI i = nI (6 * k + i) := by rw [show (6 : Int32) = nI 6 from rfl, pk_mul, nI_add]
theorem pu_cell6 {a b : Nat} (ha : a ≤ 26) (hb : b ≤ 26) : ((if a = 0 then (0 : Int32) else nI (96 + a)) = if b = 0 then 0 else nI (96 + b)) ↔ a = b := by
  constructor
  · intro h
    by_cases p : a = 0
    · by_cases q : b = 0
      · omega
      · rw [if_pos p, if_neg q] at h
        exact absurd h.symm (nI_ne0 (by omega) (by omega))
    · by_cases q : b = 0
      · rw [if_neg p, if_pos q] at h
        exact absurd h (nI_ne0 (by omega) (by omega))
      · rw [if_neg p, if_neg q] at h
        have := (nI_eq (by omega) (by omega)).mp h
        omega
  · intro h; rw [h]
/-- the reference compares a row with the word -/
theorem pu_same {N n s e k kn : Nat} {τ : St} {t v : Nat → Nat} {K : Int32 → Int32 → Int32 → Int32 → St → Option (Int32 × St)} (h : tM τ n t) (hen : e ≤ n) (hse : s ≤ e) (hk6 : e - s ≤ 6) (hl : ∀ j, s ≤ j → j < e → 97 ≤ t j ∧ t j ≤ 122) (hk : k < 99) (hv : ∀ i, v i ≤ 26) (hr : rowIs (τ.2 6) k v) : ∀ (m i : Nat) (fl : Int32), i ≤ 6 → 6 - i < m → (fl = 0 ∨ fl = 1) →
    ((fl = 1 ∧ ∀ j, i ≤ j → j < 6 → v j = wOf t s e j) ∧ J_Mod_nameOf_15 N K m (nI s) (nI e) (nI kn) (nI k) fl (nI i) τ = some (nI k, τ)) ∨ (¬ (fl = 1 ∧ ∀ j, i ≤ j → j < 6 → v j = wOf t s e j) ∧ J_Mod_nameOf_15 N K m (nI s) (nI e) (nI kn) (nI k) fl (nI i) τ = K (nI s) (nI e) (nI kn) (nI (k + 1)) τ) := by
  obtain ⟨hn, h1, h2⟩ := h
  have hw := wOf_isW hl
  intro m
  induction m with
  | zero => intro i fl _ h; omega
  | succ m ih =>
    intro i fl hi hm hfl
    rw [J_Mod_nameOf_15]
    rcases Nat.lt_or_ge i 6 with q | q
    · rw [if_neg (show ¬ (6 : Int32) ≤ nI i from nI_ge (b := 6) q (by decide)), pu_6, if_pos (pu_inB (by omega) (by decide)), nI_clamp (by omega), hr i q, nI_add]
      -- what the text has there
      have step : ∀ (X : Option (Int32 × St)), X = (if v i = wOf t s e i then J_Mod_nameOf_15 N K m (nI s) (nI e) (nI kn) (nI k) fl (nI (i + 1)) τ else J_Mod_nameOf_15 N K m (nI s) (nI e) (nI kn) (nI k) 0 (nI (i + 1)) τ) → ((fl = 1 ∧ ∀ j, i ≤ j → j < 6 → v j = wOf t s e j) ∧ X = some (nI k, τ)) ∨ (¬ (fl = 1 ∧ ∀ j, i ≤ j → j < 6 → v j = wOf t s e j) ∧ X = K (nI s) (nI e) (nI kn) (nI (k + 1)) τ) := by
        intro X hX
        by_cases z : v i = wOf t s e i
        · rw [if_pos z] at hX
          rcases ih (i + 1) fl (by omega) (by omega) hfl with ⟨⟨a1, a2⟩, a3⟩ | ⟨a1, a2⟩
          · refine Or.inl ⟨⟨a1, fun j b1 b2 => ?_⟩, hX.trans a3⟩
            by_cases ej : j = i
            · rw [ej]; exact z
            · exact a2 j (by omega) b2
          · exact Or.inr ⟨fun w => a1 ⟨w.1, fun j b1 b2 => w.2 j (by omega) b2⟩, hX.trans a2⟩
        · rw [if_neg z] at hX
          rcases ih (i + 1) 0 (by omega) (by omega) (Or.inl rfl) with ⟨⟨a1, a2⟩, a3⟩ | ⟨a1, a2⟩
          · exact absurd a1 (by decide)
          · exact Or.inr ⟨fun w => z (w.2 i (Nat.le_refl _) q), hX.trans a2⟩
      apply step
      have hvi := hv i
      have hwi := hw.le i
      rcases Nat.lt_or_ge (s + i) e with z | z
      · obtain ⟨e1, c1, c2⟩ := h2 (s + i) (by omega)
        have c3 := hl (s + i) (by omega) z
        have ew : nI (t (s + i)) = if wOf t s e i = 0 then 0 else nI (96 + wOf t s e i) := by
          have e9 : wOf t s e i = t (s + i) - 96 := by
            unfold wOf
            rw [if_pos z]
          rw [e9, if_neg (by omega), show 96 + (t (s + i) - 96) = t (s + i) by omega]
        rw [if_neg (nI_ge z (by omega)), if_pos (pu_inB (by omega) (by decide)), nI_clamp (by omega), e1, ew]
        simp only [ax_let, nI_1]
        by_cases y : v i = wOf t s e i
        · rw [if_pos ((pu_cell6 hvi hwi).mpr y), if_pos y]
        · rw [if_neg (fun x => y ((pu_cell6 hvi hwi).mp x)), if_neg y]
      · have ew : wOf t s e i = 0 := by
          unfold wOf
          rw [if_neg (by omega)]
        rw [if_pos (nI_le z (by omega)), ew]
        simp only [ax_let, nI_1]
        by_cases y : v i = 0
        · rw [if_pos y, if_pos rfl, if_pos y]
        · rw [if_neg y, if_neg (nI_ne0 (by omega) (by omega)), if_neg y]
    · have e6 : i = 6 := by omega
      subst e6
      rw [if_pos (show (6 : Int32) ≤ nI 6 by decide)]
      simp only [ax_let, nI_1]
      rcases hfl with z | z
      · exact Or.inr ⟨fun w => by rw [z] at w; exact absurd w.1 (by decide), by rw [if_pos z]⟩
      · exact Or.inl ⟨⟨z, fun j a b => by omega⟩, by rw [z, if_neg (by decide)]⟩
/-- the reference writes a new row -/
theorem pu_write {N n s e kn : Nat} {t : Nat → Nat} (hen : e ≤ n) (hse : s ≤ e) (hl : ∀ j, s ≤ j → j < e → 97 ≤ t j ∧ t j ≤ 122) (hk : kn < 99) : ∀ (m i : Nat) (τ : St), tM τ n t → i ≤ 6 → 6 - i < m →
    ∃ τ2 : St, J_Mod_nameOf_85 N m (nI s) (nI e) (nI kn) (nI i) τ = some (nI kn, τ2) ∧ τ2.1 = τ.1 ∧ (∀ k, k ≠ 6 → τ2.2 k = τ.2 k) ∧ (∀ x, x < 6 * kn + i → τ2.2 6 x = τ.2 6 x) ∧ ∀ j, i ≤ j → j < 6 → τ2.2 6 (6 * kn + j) = if wOf t s e j = 0 then 0 else nI (96 + wOf t s e j) := by
  intro m
  induction m with
  | zero => intro i τ _ _ h; omega
  | succ m ih =>
    intro i τ h hi hm
    obtain ⟨hn, h1, h2⟩ := id h
    have hnar : ∀ c, c ≤ 126 → vp_nar .char (nI c) = nI c := by decide +kernel
    rw [J_Mod_nameOf_85]
    rcases Nat.lt_or_ge i 6 with q | q
    · rw [if_neg (show ¬ (6 : Int32) ≤ nI i from nI_ge (b := 6) q (by decide)), pu_6, nI_add]
      have go : ∀ v : Int32, v = (if wOf t s e i = 0 then 0 else nI (96 + wOf t s e i)) → ∃ τ2 : St, J_Mod_nameOf_85 N m (nI s) (nI e) (nI kn) (nI (i + 1)) (sA τ 6 (6 * kn + i) v) = some (nI kn, τ2) ∧ τ2.1 = τ.1 ∧ (∀ k, k ≠ 6 → τ2.2 k = τ.2 k) ∧ (∀ x, x < 6 * kn + i → τ2.2 6 x = τ.2 6 x) ∧ ∀ j, i ≤ j → j < 6 → τ2.2 6 (6 * kn + j) = if wOf t s e j = 0 then 0 else nI (96 + wOf t s e j) := by
        intro v hv
        obtain ⟨τ2, g1, g2, g3, g4, g5⟩ := ih (i + 1) (sA τ 6 (6 * kn + i) v) h (by omega) (by omega)
        refine ⟨τ2, g1, g2, fun k hk6 => (g3 k hk6).trans (sA_ne _ _ _ hk6), fun x hx => ?_, fun j a b => ?_⟩
        · rw [g4 x (by omega), sA_self, pk_un (by omega)]
        · by_cases ej : j = i
          · rw [ej, g4 _ (by omega), sA_self, pk_us, hv]
          · exact g5 j (by omega) b
      rcases Nat.lt_or_ge (s + i) e with z | z
      · obtain ⟨e1, c1, c2⟩ := h2 (s + i) (by omega)
        have c3 := hl (s + i) (by omega) z
        rw [if_neg (nI_ge z (by omega)), if_pos (pu_inB (by omega) (by decide)), if_pos (pu_inB (by omega) (by decide)), nI_clamp (by omega), nI_clamp (by omega), e1, hnar _ c2]
        simp only [ax_let, nI_1]
        refine go _ ?_
        have e9 : wOf t s e i = t (s + i) - 96 := by
          unfold wOf
          rw [if_pos z]
        rw [e9, if_neg (by omega), show 96 + (t (s + i) - 96) = t (s + i) by omega]
      · have ew : wOf t s e i = 0 := by
          unfold wOf
          rw [if_neg (by omega)]
        rw [if_pos (nI_le z (by omega)), if_pos (pu_inB (by omega) (by decide)), nI_clamp (by omega), show vp_nar .char 0 = 0 from hnar 0 (by decide)]
        simp only [ax_let, nI_1]
        exact go _ (by rw [ew, if_pos rfl])
    · have e6 : i = 6 := by omega
      subst e6
      exact ⟨τ, by rw [if_pos (show (6 : Int32) ≤ nI 6 by decide)], rfl, fun _ _ => rfl, fun _ _ => rfl, fun j a b => by omega⟩
