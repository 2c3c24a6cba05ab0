/-! PURE ROWS 6: words. Printed by wip/whole/gen_p55.py. -/
def wdW (i : Nat) : Nat → Nat := fun j => if j < 6 then (([[9, 6], [5, 12, 19, 5], [23, 8, 9, 12, 5], [5, 14, 4], [3, 12, 19], [16, 19, 5, 20], [12, 9, 14, 5], [2, 15, 24], [16, 15, 11, 5], [1, 2, 19], [6, 12, 18], [2, 20, 14], [2, 20, 14, 16], [13, 9, 14], [13, 1, 24], [16, 7, 5, 20], [18, 14, 4]] : List (List Nat)).getD i []).getD j 0 else 0
def wdL (i : Nat) : Nat := ([2, 4, 5, 3, 3, 4, 4, 3, 4, 3, 3, 3, 4, 3, 3, 4, 3] : List Nat).getD i 0
/-- the reference's number of the i-th word -/
def wdM (i : Nat) : Nat := ([10, 11, 12, 13, 14, 15, 16, 17, 18, 20, 21, 22, 23, 24, 25, 26, 27] : List Nat).getD i 2
def n27 (w : Nat → Nat) : Nat → Nat
  | 0 => 0
  | k + 1 => 27 * n27 w k + w k
def wdC (i : Nat) : Nat := ([249, 107681, 12387497, 4027, 2530, 328934, 243140, 1887, 326165, 802, 4716, 2012, 54340, 9734, 9528, 320186, 13504] : List Nat).getD i 0
theorem wd_fact : ∀ i, i < 17 → (∀ j, j < 6 → wdW i j ≤ 26) ∧ (∀ j, j < wdL i → 1 ≤ wdW i j) ∧ wdL i ≤ 6 ∧ n27 (wdW i) (wdL i) = wdC i ∧ tKEYS i = nI (encW (wdW i)) := by decide +kernel
theorem wd_le (i j : Nat) : i < 17 → wdW i j ≤ 26 := by
  intro hi
  rcases Nat.lt_or_ge j 6 with h | h
  · exact (wd_fact i hi).1 j h
  · unfold wdW
    rw [if_neg (by omega)]
    omega
theorem wd_zero : ∀ i, i < 17 → ∀ j, j < 6 → wdL i ≤ j → wdW i j = 0 := by decide
theorem wd_inj : ∀ i, i < 17 → ∀ j, j < 17 → wdC i = wdC j → i = j := by decide
theorem wd_small : ∀ i, i < 17 → wdC i < 2 ^ 31 := by decide
/-- a word of k letters (codes w, then 0) -/
def isW (w : Nat → Nat) (k : Nat) : Prop := (∀ j, j < k → 1 ≤ w j ∧ w j ≤ 26) ∧ ∀ j, k ≤ j → w j = 0
theorem isW.le {w : Nat → Nat} {k : Nat} (h : isW w k) (j : Nat) : w j ≤ 26 := by
  rcases Nat.lt_or_ge j k with q | q
  · exact (h.1 j q).2
  · rw [h.2 j q]; omega
theorem encW_inj {w v : Nat → Nat} (hw : ∀ i, w i ≤ 26) (hv : ∀ i, v i ≤ 26) (h : encW w = encW v) : ∀ j, j < 6 → w j = v j := by
  obtain ⟨a0, a1, a2, a3, a4, a5⟩ := encW_dig hw
  obtain ⟨b0, b1, b2, b3, b4, b5⟩ := encW_dig hv
  rw [h] at a0 a1 a2 a3 a4 a5
  intro j hj
  rcases (show j = 0 ∨ j = 1 ∨ j = 2 ∨ j = 3 ∨ j = 4 ∨ j = 5 by omega) with rfl | rfl | rfl | rfl | rfl | rfl <;> omega
theorem n27_pos {w : Nat → Nat} {k : Nat} (h : ∀ j, j < k → 1 ≤ w j) (hk : 0 < k) : 0 < n27 w k := by
  obtain ⟨m, rfl⟩ : ∃ m, k = m + 1 := ⟨k - 1, by omega⟩
  rw [n27]
  have := h m (by omega)
  omega
theorem n27_inj : ∀ (k m : Nat) (w v : Nat → Nat), (∀ j, j < k → 1 ≤ w j ∧ w j ≤ 26) → (∀ j, j < m → 1 ≤ v j ∧ v j ≤ 26) → n27 w k = n27 v m → k = m ∧ ∀ j, j < k → w j = v j := by
  intro k
  induction k with
  | zero =>
    intro m w v _ hv h
    rcases Nat.eq_zero_or_pos m with q | q
    · exact ⟨q.symm, fun j hj => by omega⟩
    · have := n27_pos (fun j hj => (hv j hj).1) q
      rw [n27] at h
      omega
  | succ k ih =>
    intro m w v hw hv h
    rcases Nat.eq_zero_or_pos m with q | q
    · subst q
      have := n27_pos (fun j hj => (hw j hj).1) (Nat.succ_pos k)
      rw [show n27 v 0 = 0 from rfl] at h
      omega
    · obtain ⟨m, rfl⟩ : ∃ l, m = l + 1 := ⟨m - 1, by omega⟩
      rw [n27, n27] at h
      have h1 := hw k (by omega)
      have h2 := hv m (by omega)
      have e1 : w k = v m := by omega
      have e2 : n27 w k = n27 v m := by omega
      obtain ⟨e3, e4⟩ := ih m w v (fun j hj => hw j (by omega)) (fun j hj => hv j (by omega)) e2
      subst e3
      refine ⟨rfl, fun j hj => ?_⟩
      by_cases e : j = k
      · rw [e]; exact e1
      · exact e4 j (by omega)
/-- a word is the i-th: by its key, or by its number -/
theorem wd_key {w : Nat → Nat} {k i : Nat} (hw : isW w k) (hk : k ≤ 6) (hi : i < 17) : nI (encW w) = tKEYS i ↔ n27 w k = wdC i := by
  obtain ⟨f1, f2, f3, f4, f5⟩ := wd_fact i hi
  have hl := encW_lt hw.le
  have hl2 := encW_lt (w := wdW i) (fun j => wd_le i j hi)
  constructor
  · intro h
    rw [f5] at h
    have e := encW_inj hw.le (fun j => wd_le i j hi) ((nI_eq (by omega) (by omega)).mp h)
    have ek : k = wdL i := by
      rcases Nat.lt_trichotomy k (wdL i) with q | q | q
      · have a := f2 k q
        have b := e k (by omega)
        rw [hw.2 k (Nat.le_refl _)] at b
        omega
      · exact q
      · have a := (hw.1 (wdL i) q).1
        have b := e (wdL i) (by omega)
        rw [wd_zero i hi (wdL i) (by omega) (Nat.le_refl _)] at b
        omega
    have ext : ∀ m, m ≤ 6 → n27 w m = n27 (wdW i) m := by
      intro m
      induction m with
      | zero => intro _; rfl
      | succ m ih => intro hm; rw [n27, n27, ih (by omega), e m (by omega)]
    rw [ek, ext _ f3, f4]
  · intro h
    rw [← f4] at h
    obtain ⟨e1, e2⟩ := n27_inj k (wdL i) w (wdW i) hw.1 (fun j hj => ⟨f2 j hj, wd_le i j hi⟩) h
    have e : ∀ j, j < 6 → w j = wdW i j := by
      intro j hj
      rcases Nat.lt_or_ge j k with q | q
      · exact e2 j q
      · rw [hw.2 j q, wd_zero i hi j hj (by omega)]
    rw [f5]
    unfold encW
    rw [e 0 (by omega), e 1 (by omega), e 2 (by omega), e 3 (by omega), e 4 (by omega), e 5 (by omega)]
theorem n27_lt {w : Nat → Nat} : ∀ k, (∀ j, w j ≤ 26) → n27 w k < 27 ^ k := by
  intro k
  induction k with
  | zero => intro _; exact Nat.zero_lt_one
  | succ k ih =>
    intro h
    rw [n27, Nat.pow_succ]
    have a := ih h
    have b := h k
    omega
/-- the class: which word a key is -/
theorem pu_kind {N key : Nat} {σ : St} (hk : ∀ j, j < 17 → σ.2 0 j = tKEYS j) : ∀ (m i : Nat), i ≤ 17 → 17 - i < m → (∃ j, i ≤ j ∧ j < 17 ∧ nI key = tKEYS j ∧ J_Tokens_kindOfWord_2 N m (nI key) (nI i) σ = some (nI (4 + j), σ)) ∨ ((∀ j, i ≤ j → j < 17 → ¬ nI key = tKEYS j) ∧ J_Tokens_kindOfWord_2 N m (nI key) (nI i) σ = some (3, σ)) := by
  intro m
  induction m with
  | zero => intro i _ h; omega
  | succ m ih =>
    intro i hi hm
    rw [J_Tokens_kindOfWord_2]
    rcases Nat.lt_or_ge i 17 with q | q
    · rw [if_neg (show ¬ (17 : Int32) ≤ nI i from nI_ge (b := 17) q (by decide)), if_pos (pu_inB q (by decide)), nI_clamp (by omega), hk i q]
      by_cases e : tKEYS i = nI key
      · exact Or.inl ⟨i, Nat.le_refl _, q, e.symm, by rw [if_pos e, show (4 : Int32) = nI 4 from rfl, nI_add]⟩
      · simp only [ax_let]
        rw [if_neg e, nI_1]
        rcases ih (i + 1) (by omega) (by omega) with ⟨j, h1, h2, h3, h4⟩ | ⟨h1, h2⟩
        · exact Or.inl ⟨j, by omega, h2, h3, h4⟩
        · refine Or.inr ⟨fun j h3 h4 => ?_, h2⟩
          by_cases e2 : j = i
          · rw [e2]; exact fun w => e w.symm
          · exact h1 j (by omega) h4
    · exact Or.inr ⟨fun j h3 h4 => by omega, by rw [if_pos (show (17 : Int32) ≤ nI i from nI_le (a := 17) q (by omega))]⟩
/-- the reference: which word a number is -/
def mkind (v : Int32) : Int32 := if v = 249 then 10 else if v = 802 then 20 else if v = 1887 then 17 else if v = 2012 then 22 else if v = 2530 then 14 else if v = 4027 then 13 else if v = 4716 then 21 else if v = 9528 then 25 else if v = 9734 then 24 else if v = 13504 then 27 else if v = 54340 then 23 else if v = 107681 then 11 else if v = 243140 then 16 else if v = 320186 then 26 else if v = 326165 then 18 else if v = 328934 then 15 else if v = 12387497 then 12 else 2
theorem mkind_in : ∀ i, i < 17 → mkind (nI (wdC i)) = nI (wdM i) := by decide
theorem mkind_out {v : Int32} (h : ∀ i, i < 17 → ¬ v = nI (wdC i)) : mkind v = 2 := by
  unfold mkind
  rw [if_neg (show ¬ v = 249 from h 0 (by decide)), if_neg (show ¬ v = 802 from h 9 (by decide)), if_neg (show ¬ v = 1887 from h 7 (by decide)), if_neg (show ¬ v = 2012 from h 11 (by decide)), if_neg (show ¬ v = 2530 from h 4 (by decide)), if_neg (show ¬ v = 4027 from h 3 (by decide)), if_neg (show ¬ v = 4716 from h 10 (by decide)), if_neg (show ¬ v = 9528 from h 14 (by decide)), if_neg (show ¬ v = 9734 from h 13 (by decide)), if_neg (show ¬ v = 13504 from h 16 (by decide)), if_neg (show ¬ v = 54340 from h 12 (by decide)), if_neg (show ¬ v = 107681 from h 1 (by decide)), if_neg (show ¬ v = 243140 from h 6 (by decide)), if_neg (show ¬ v = 320186 from h 15 (by decide)), if_neg (show ¬ v = 326165 from h 8 (by decide)), if_neg (show ¬ v = 328934 from h 5 (by decide)), if_neg (show ¬ v = 12387497 from h 2 (by decide))]
theorem pu_ifs {c : Prop} [Decidable c] {a b : Int32} {τ : St} {X : Option (Int32 × St)} (h : X = some (b, τ)) : (if c then some (a, τ) else X) = some (if c then a else b, τ) := by
  by_cases q : c
  · rw [if_pos q, if_pos q]
  · rw [if_neg q, if_neg q, h]
theorem pu_mkind {N n e : Nat} {τ : St} {t : Nat → Nat} (h : tM τ n t) (he : e ≤ n) : ∀ (m p : Nat) (v : Int32), p ≤ e → e - p < m → J_Mod_wordKind_5 N m (nI e) v (nI p) τ = some (mkind ((List.range (e - p)).foldl (fun a i => 27 * a + nI (t (p + i)) - 97 + 1) v), τ) := by
  obtain ⟨hn, h1, h2⟩ := h
  intro m
  induction m with
  | zero => intro p v _ h; omega
  | succ m ih =>
    intro p v hp hm
    rw [J_Mod_wordKind_5]
    rcases Nat.lt_or_ge p e with z | z
    · obtain ⟨e1, c1, c2⟩ := h2 p (by omega)
      rw [if_neg (nI_ge z (by omega)), if_pos (pu_inB (by omega) (by decide)), nI_clamp (by omega), e1]
      simp only [ax_let]
      rw [nI_1, ih (p + 1) _ (by omega) (by omega), show e - p = (e - (p + 1)) + 1 by omega, List.range_succ_eq_map, List.foldl_cons, List.foldl_map]
      simp only [Nat.add_zero, Nat.succ_eq_add_one, show ∀ i, p + 1 + i = p + (i + 1) from fun i => by omega]
    · rw [if_pos (nI_le z (by omega)), show e - p = 0 by omega]
      unfold mkind
      simp only [List.range_zero, List.foldl_nil]
      exact pu_ifs (pu_ifs (pu_ifs (pu_ifs (pu_ifs (pu_ifs (pu_ifs (pu_ifs (pu_ifs (pu_ifs (pu_ifs (pu_ifs (pu_ifs (pu_ifs (pu_ifs (pu_ifs (pu_ifs (rfl)))))))))))))))))
