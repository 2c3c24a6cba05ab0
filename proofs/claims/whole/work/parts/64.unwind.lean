/-! PURE ROWS 15: the console's reader: unwinding, holding, names. -/
def uFr (σ σ2 : St) : Prop := (∀ k, k ≠ 10 → k ≠ 11 → k ≠ 12 → k ≠ 13 → k ≠ 15 → σ2.1 k = σ.1 k) ∧ (∀ k, k ≠ 6 → k ≠ 7 → k ≠ 8 → σ2.2 k = σ.2 k)
theorem uFr.rf (σ : St) : uFr σ σ := ⟨fun _ _ _ _ _ _ => rfl, fun _ _ _ _ => rfl⟩
theorem uFr.tr {a b c : St} (h : uFr a b) (h2 : uFr b c) : uFr a c := ⟨fun k q1 q2 q3 q4 q5 => (h2.1 k q1 q2 q3 q4 q5).trans (h.1 k q1 q2 q3 q4 q5), fun k q1 q2 q3 => (h2.2 k q1 q2 q3).trans (h.2 k q1 q2 q3)⟩
theorem opC_0 {k : Nat} : opC (k, 0) = 0 := by
  unfold opC
  repeat' split
  all_goals rfl
theorem ar_op {k : Nat} (h : 1 ≤ rk k) : ar k = if rk k = 6 then 1 else 2 := by
  unfold ar
  have h1 : ¬ (k = 2 ∨ k = 3) := by
    rintro (rfl | rfl) <;> exact absurd h (by decide)
  have h2 : ¬ (13 ≤ k ∧ k ≤ 20) := fun z => by
    rw [rk_fn z.1 z.2] at h
    omega
  rw [if_neg h1, if_neg h2]
theorem dw_op {k d : Nat} (h : 1 ≤ rk k) : dw (k, d) = if rk k = 6 then 0 else 1 := by
  unfold dw
  rw [if_pos (show 1 ≤ rk (k, d).1 from h)]
/-- enough values wait for an operator -/
theorem hN_op {k : Nat} {hs : List Nat} {hi : Nat} (h : 1 ≤ rk k) {r : Nat} (hl : hs.length = dw (k, 0) + r) (hr : 1 ≤ r) : ∃ hs2 hi2, hN k (hs, hi) = some (hs2, hi2) ∧ hs2.length = r := by
  rw [dw_op h] at hl
  unfold hN
  rw [ar_op h]
  by_cases q : rk k = 6
  · rw [if_pos q] at hl
    simp only [if_pos q]
    cases hs with
    | nil => simp only [List.length_nil] at hl; omega
    | cons x s =>
      refine ⟨(x + 1) :: s, max hi (x + 2), rfl, ?_⟩
      simp only [List.length_cons] at hl ⊢
      omega
  · rw [if_neg q] at hl
    simp only [if_neg q]
    cases hs with
    | nil => simp only [List.length_nil] at hl; omega
    | cons y hs =>
    cases hs with
    | nil => simp only [List.length_nil, List.length_cons] at hl; omega
    | cons x s =>
      refine ⟨(max x y + 1) :: s, max hi (max x y + 2), rfl, ?_⟩
      simp only [List.length_cons] at hl ⊢
      omega
theorem pu_unw {N r : Nat} (hN1 : 10 ≤ N) (hr1 : 1 ≤ r) (hr6 : r ≤ 6) {b : Nat} : ∀ (ws : List (Nat × Nat)) (Er : List (Nat × Int32)) (hs : List Nat) (hi : Nat) (σ : St) (f : Nat), wst σ ws → nst σ Er hs hi → hs.length = dW ws + 1 + b → Er.length + ws.length ≤ 48 → allW ws → σ.1 15 = 0 → ws.length < f →
    ∃ (σ2 : St) (hs2 : List Nat) (hi2 : Nat), J_LineReader_unwind_0 N f (nI r) σ = some σ2 ∧ wst σ2 (unw r ws).2 ∧ nst σ2 ((unw r ws).1.reverse ++ Er) hs2 hi2 ∧ hs2.length = dW (unw r ws).2 + 1 + b ∧ exH (unw r ws).1 (hs, hi) = some (hs2, hi2) ∧ uFr σ σ2 ∧ σ2.1 15 = 0 := by
  intro ws
  induction ws with
  | nil =>
    intro Er hs hi σ f hw hn hl hb ha h15 hf
    obtain ⟨f, rfl⟩ : ∃ k, f = k + 1 := ⟨f - 1, by omega⟩
    refine ⟨σ, hs, hi, ?_, hw, hn, hl, rfl, uFr.rf σ, h15⟩
    rw [J_LineReader_unwind_0, hw.1, if_pos (by decide)]
  | cons w ws ih =>
    intro Er hs hi σ f hw hn hl hb ha h15 hf
    obtain ⟨f, rfl⟩ : ∃ k, f = k + 1 := ⟨f - 1, by omega⟩
    obtain ⟨w1, w2, w3, w4⟩ := hw
    simp only [List.length_cons] at w1 hb hf
    have hrk := rk_le w.1
    have hib : inB (nI ws.length) 48 = true := pu_inB (by omega) (by decide)
    have start : J_LineReader_unwind_0 N (f + 1) (nI r) σ = if nI (rk w.1) < nI r then some σ else J_LineReader_unwind_51 N (fun l1 σ => J_LineReader_unwind_0 N f l1 σ) (if rk w.1 = 6 then 1 else 0) (nI r) (sF σ 13 (nI ws.length)) := by
      rw [J_LineReader_unwind_0, w1, if_neg (nI_nle (by omega) (by omega)), nI_pred, if_pos hib, nI_clamp (by omega), w3.1, ax_let, show (sF σ 13 (nI ws.length)).1 13 = nI ws.length from rfl, if_pos hib, nI_clamp (by omega), show (sF σ 13 (nI ws.length)).2 10 ws.length = nI (rk w.1) from w3.1]
      by_cases q : rk w.1 = 6
      · rw [if_pos q, if_pos (show nI (rk w.1) = 6 by rw [q]; rfl)]
      · rw [if_neg q, if_neg (show ¬ nI (rk w.1) = 6 from fun x => q ((nI_eq (by omega) (by decide)).mp x))]
    by_cases q : r ≤ rk w.1
    · have hop : 1 ≤ rk w.1 := by omega
      have hd0 : w.2 = 0 := by
        rcases ha.1 with z | z | z
        · exact z.2
        · rw [z.1, rk_40] at hop; omega
        · rw [rk_fn z.1 z.2.1] at hop; omega
      have hdw : dw w = dw (w.1, 0) := by rw [← hd0]
      have hl2 : hs.length = dw (w.1, 0) + (dW ws + 1 + b) := by
        have : dW (w :: ws) = dw w + dW ws := rfl
        omega
      obtain ⟨hs3, hi3, e1, e2⟩ := hN_op (hi := hi) hop hl2 (by omega)
      have hn1 : nst (sF σ 13 (nI ws.length)) Er hs hi := hn
      obtain ⟨σ3, g1, g2, g3⟩ := pu_emit (N := N) (x := 0) hN1 hn1 (by omega) e1
      have hw3 : wst σ3 ws := by
        refine ⟨?_, ?_, ?_, ?_⟩
        · rw [g3.1 13 (by decide) (by decide) (by decide) (by decide)]; rfl
        · rw [g3.2.1 9 (by decide) (by decide) (by decide)]; exact w2.2
        · rw [g3.2.1 10 (by decide) (by decide) (by decide)]; exact w3.2
        · rw [g3.2.1 11 (by decide) (by decide) (by decide)]; exact w4.2
      obtain ⟨σ4, hs4, hi4, i1, i2, i3, i4, i5, i6, i7⟩ := ih ((w.1, 0) :: Er) hs3 hi3 σ3 f hw3 g2 e2 (by simp only [List.length_cons]; omega) ha.2 g3.2.2 (by omega)
      have eU : unw r (w :: ws) = ((w.1, 0) :: (unw r ws).1, (unw r ws).2) := by rw [unw, if_pos q]
      rw [eU]
      refine ⟨σ4, hs4, hi4, ?_, i2, ?_, i4, ?_, ?_, i7⟩
      · rw [start, if_neg (nI_nlt q (by omega)), J_LineReader_unwind_51, show (sF σ 13 (nI ws.length)).1 13 = nI ws.length from rfl, if_pos hib, nI_clamp (by omega), show (sF σ 13 (nI ws.length)).2 9 ws.length = nI w.1 from w2.1]
        rw [opC_0, ar_op hop] at g1
        by_cases z : rk w.1 = 6
        · rw [if_pos z] at g1 ⊢
          rw [if_neg (by decide), show (1 : Int32) = nI 1 from rfl, g1, ax_bsV]
          exact i1
        · rw [if_neg z] at g1 ⊢
          rw [if_pos rfl, show (2 : Int32) = nI 2 from rfl, g1, ax_bsV]
          exact i1
      · show nst σ4 (((w.1, 0) :: (unw r ws).1).reverse ++ Er) hs4 hi4
        rw [List.reverse_cons, List.append_assoc]
        exact i3
      · show (match hN w.1 (hs, hi) with | none => none | some q => exH (unw r ws).1 q) = some (hs4, hi4)
        rw [e1]
        exact i5
      · refine uFr.tr ⟨fun j q1 q2 q3 q4 q5 => ?_, fun j q1 q2 q3 => ?_⟩ i6
        · rw [g3.1 j q1 q2 q3 q5]
          exact if_neg q4
        · rw [g3.2.1 j q1 q2 q3]
          rfl
    · have eU : unw r (w :: ws) = ([], w :: ws) := by rw [unw, if_neg q]
      rw [eU]
      refine ⟨σ, hs, hi, ?_, ⟨w1, w2, w3, w4⟩, hn, hl, rfl, uFr.rf σ, h15⟩
      rw [start, if_pos (nI_lt (by omega) (by omega))]
theorem pu_hold {N k r d : Nat} {σ : St} {ws : List (Nat × Nat)} (hw : wst σ ws) (hl : ws.length < 48) (hr : rk k = r) : J_LineReader_hold N (nI k) (nI r) (nI d) σ = some (sF (sF (sA (sA (sA σ 9 ws.length (nI k)) 10 ws.length (nI r)) 11 ws.length (nI d)) 13 (nI (ws.length + 1))) 15 1) ∧ wst (sF (sF (sA (sA (sA σ 9 ws.length (nI k)) 10 ws.length (nI r)) 11 ws.length (nI d)) 13 (nI (ws.length + 1))) 15 1) ((k, d) :: ws) := by
  obtain ⟨w1, w2, w3, w4⟩ := hw
  have hib : inB (nI ws.length) 48 = true := pu_inB hl (by decide)
  refine ⟨?_, rfl, ?_, ?_, ?_⟩
  · rw [J_LineReader_hold, w1, if_pos hib, nI_clamp (by omega), ax_let, show (sA σ 9 ws.length (nI k)).1 13 = nI ws.length from w1, if_pos hib, nI_clamp (by omega), ax_let, show (sA (sA σ 9 ws.length (nI k)) 10 ws.length (nI r)).1 13 = nI ws.length from w1, if_pos hib, nI_clamp (by omega), ax_let, ax_let, show (sA (sA (sA σ 9 ws.length (nI k)) 10 ws.length (nI r)) 11 ws.length (nI d)).1 13 = nI ws.length from w1, nI_1, ax_let]
  · show sIs _ ((sA (sA (sA σ 9 ws.length (nI k)) 10 ws.length (nI r)) 11 ws.length (nI d)).2 9) _
    rw [sA_ne _ _ _ (by decide), sA_ne _ _ _ (by decide), sA_self]
    exact sIs.push w2 (k, d)
  · show sIs _ ((sA (sA (sA σ 9 ws.length (nI k)) 10 ws.length (nI r)) 11 ws.length (nI d)).2 10) _
    rw [sA_ne _ _ _ (by decide), sA_self, sA_ne _ _ _ (by decide), ← hr]
    exact sIs.push w3 (k, d)
  · show sIs _ ((sA (sA (sA σ 9 ws.length (nI k)) 10 ws.length (nI r)) 11 ws.length (nI d)).2 11) _
    rw [sA_self, sA_ne _ _ _ (by decide), sA_ne _ _ _ (by decide)]
    exact sIs.push w4 (k, d)
/-- names: b are known, the console keeps twelve of them -/
def nmS (V : Nat → Nat → Nat) (b : Nat) (σ : St) : Prop := σ.1 5 = nI (min b 12) ∧ σ.1 6 = (if b ≤ 12 then 0 else 1) ∧ ∀ k, k < min b 12 → σ.2 5 k = nI (encW (V k))
def nmR (V : Nat → Nat → Nat) (b b2 : Nat) (key v : Int32) : Prop := ∃ id : Nat, v = nI id ∧ key = nI (encW (V id)) ∧ ((id < b ∧ b2 = b) ∨ (id = b ∧ b2 = b + 1)) ∧ ∀ k, k < id → ¬ eq6 (V k) (V id)
theorem pu_find {N b b2 : Nat} {key v : Int32} {σ : St} {V : Nat → Nat → Nat} (hN1 : 20 ≤ N) (hV : ∀ k j, V k j ≤ 26) (hb : b ≤ 100) (hn : nmS V b σ) (hr : nmR V b b2 key v) : ∃ σ2 : St, J_Names_findOrSee N key σ = some (opC (3, v), σ2) ∧ nmS V b2 σ2 ∧ (∀ k, k ≠ 5 → k ≠ 6 → σ2.1 k = σ.1 k) ∧ ∀ k, k ≠ 5 → σ2.2 k = σ.2 k := by
  obtain ⟨n1, n2, n3⟩ := hn
  obtain ⟨id, rfl, rfl, r3, r4⟩ := hr
  have hop : opC (3, nI id) = if id < 12 then nI id else 0 := by
    show (if nI id < 12 then nI id else 0) = _
    by_cases q : id < 12
    · rw [if_pos q, if_pos (show nI id < 12 from nI_lt (b := 12) q (by decide))]
    · rw [if_neg q, if_neg (show ¬ nI id < 12 from nI_nlt (b := 12) (by omega) (by omega))]
  have loop : ∀ (m i : Nat), i ≤ min b 12 → i ≤ id → min b 12 - i < m → ∃ σ2 : St, J_Names_findOrSee_2 N m (nI (encW (V id))) (nI i) σ = some (opC (3, nI id), σ2) ∧ nmS V b2 σ2 ∧ (∀ k, k ≠ 5 → k ≠ 6 → σ2.1 k = σ.1 k) ∧ ∀ k, k ≠ 5 → σ2.2 k = σ.2 k := by
    intro m
    induction m with
    | zero => intro i _ _ h; omega
    | succ m ih =>
      intro i h1 h2 h3
      rw [J_Names_findOrSee_2, n1]
      by_cases q : i = min b 12
      · rw [if_pos (nI_le (by omega) (by omega))]
        by_cases z : min b 12 = 12
        · rw [if_pos (by rw [z]; rfl), ax_let]
          have hm : min b2 12 = min b 12 := by omega
          refine ⟨sF σ 6 1, ?_, ⟨?_, ?_, ?_⟩, fun k k1 k2 => if_neg k2, fun _ _ => rfl⟩
          · rw [hop, if_neg (by omega)]
          · show σ.1 5 = _
            rw [n1, hm]
          · show (1 : Int32) = _
            rw [if_neg (by omega)]
          · rw [hm]
            exact n3
        · have hidb : id = b := by omega
          have hb2 : b2 = b + 1 := by omega
          have hmb : min b 12 = b := by omega
          rw [if_neg (show ¬ nI (min b 12) = 12 from fun x => z ((nI_eq (by omega) (by decide)).mp x)), if_pos (pu_inB (by omega) (by decide)), nI_clamp (by omega), ax_let, ax_let, show (sA σ 5 (min b 12) (nI (encW (V id)))).1 5 = nI (min b 12) from n1, nI_1]
          refine ⟨sF (sA σ 5 (min b 12) (nI (encW (V id)))) 5 (nI (min b 12 + 1)), ?_, ⟨?_, ?_, ?_⟩, fun k k1 k2 => if_neg k1, fun k hk => sA_ne _ _ _ hk⟩
          · rw [hop, if_pos (by omega), show (sF (sA σ 5 (min b 12) (nI (encW (V id)))) 5 (nI (min b 12 + 1))).1 5 = nI (min b 12 + 1) from rfl, nI_pred, hmb, hidb]
          · show nI (min b 12 + 1) = _
            congr 1
            omega
          · show σ.1 6 = _
            rw [n2, if_pos (by omega), if_pos (by omega)]
          · intro k hk
            show (sA σ 5 (min b 12) (nI (encW (V id)))).2 5 k = _
            rw [sA_at]
            by_cases y : k = min b 12
            · rw [if_pos ⟨rfl, y⟩, y, hmb, hidb]
            · rw [if_neg (fun x => y x.2)]
              exact n3 k (by omega)
      · rw [if_neg (nI_ge (by omega) (by omega)), if_pos (pu_inB (by omega) (by decide)), nI_clamp (by omega), n3 i (by omega)]
        by_cases y : i = id
        · subst y
          rw [if_pos rfl]
          have hb2 : b2 = b := by omega
          subst hb2
          refine ⟨σ, ?_, ⟨n1, n2, n3⟩, fun _ _ _ => rfl, fun _ _ => rfl⟩
          rw [hop, if_pos (by omega)]
        · rw [if_neg (fun x => r4 i (by omega) (encW_inj (hV i) (hV id) ((nI_eq (by have := encW_lt (hV i); omega) (by have := encW_lt (hV id); omega)).mp x))), ax_let, nI_1]
          exact ih (i + 1) (by omega) (by omega) (by omega)
  rw [J_Names_findOrSee]
  exact loop N 0 (by omega) (by omega) (by omega)
