/-! PURE ROWS 26: what a line's nodes are; how a line lies on both sides. -/
theorem run_le {ts : List (Nat × Int32)} {ws : List (Nat × Nat)} {o m i : Nat} (hm : m ≤ 1) (ha : allW ws) (hs : srt ws) (h : run ts ws o m = Sum.inl i) : i ≤ ts.length := by
  have ad : ∀ (e : List (Nat × Int32)) (c : Nat) (R : Nat ⊕ List (Nat × Int32)) (l i : Nat), (∀ j, R = Sum.inl j → j ≤ l) → addE e c R = Sum.inl i → i ≤ l + c := by
    intro e c R l i hR h
    cases R with
    | inl j =>
      have h : Sum.inl (j + c) = (Sum.inl i : Nat ⊕ List (Nat × Int32)) := h
      have := hR j rfl
      simp only [Sum.inl.injEq] at h
      omega
    | inr E => exact absurd h (by unfold addE; simp)
  have key := run_ind (fun ts R => ∀ i, R = Sum.inl i → i ≤ ts.length)
    (fun ws o m i h => by
      rw [run_nil] at h
      split at h
      · exact absurd h (by simp)
      · simp only [Sum.inl.injEq] at h
        omega)
    (fun t ts i h => by simp only [Sum.inl.injEq] at h; omega)
    (fun k v ts ws o e ws2 o2 m2 R _ _ h2 i h => ad _ _ _ _ _ h2 h)
    (fun k v ts ws R _ h2 i h => ad _ _ _ _ _ h2 h)
    (fun k v ts R _ h2 i h => ad _ _ _ _ _ h2 h)
    (fun k v _ i h => by simp only [Sum.inl.injEq] at h; rw [List.length_cons]; omega)
    (fun k v t2 ts _ i h => by simp only [Sum.inl.injEq] at h; simp only [List.length_cons]; omega)
    (fun k v v2 ts R _ h2 i h => by have := ad _ _ _ _ _ h2 h; simp only [List.length_cons]; omega)
  exact key ts.length ts ws o m (Nat.le_refl _) hm ha hs i h
def okN (n : Nat × Int32) : Prop := n.1 = 2 ∨ n.1 = 3 ∨ 1 ≤ rk n.1 ∨ (13 ≤ n.1 ∧ n.1 ≤ 20)
theorem okN.lt {n : Nat × Int32} (h : okN n) : n.1 ≤ 124 := by
  rcases h with h | h | h | h
  · omega
  · omega
  · have := rk_lt h
    omega
  · omega
theorem unw_ok (r : Nat) (hr : 1 ≤ r) : ∀ ws n, n ∈ (unw r ws).1 → okN n := by
  intro ws
  induction ws with
  | nil => intro n hn; exact absurd hn (by simp [unw])
  | cons w ws ih =>
    intro n hn
    unfold unw at hn
    split at hn
    · rename_i q
      rcases List.mem_cons.mp hn with z | z
      · rw [z]
        exact Or.inr (Or.inr (Or.inl (by show 1 ≤ rk w.1; omega)))
      · exact ih n z
    · exact absurd hn (by simp)
theorem run_ok {ts : List (Nat × Int32)} {ws : List (Nat × Nat)} {o m : Nat} {E : List (Nat × Int32)} (hm : m ≤ 1) (ha : allW ws) (hs : srt ws) (h : run ts ws o m = Sum.inr E) : ∀ n, n ∈ E → okN n := by
  have jk : ∀ k ws o e ws2 o2 m2, allW ws → jn k ws o = some (e, ws2, o2, m2) → ∀ n, n ∈ e → okN n := by
    intro k ws o e ws2 o2 m2 hw h n hn
    unfold jn at h
    split at h
    · split at h
      · exact absurd h (by simp)
      · rename_i w ws3 hq
        have ua := unw_all 1 ws hw
        rw [hq] at ua
        split at h
        · split at h
          · simp only [Option.some.injEq, Prod.mk.injEq] at h
            rw [← h.1] at hn
            rcases List.mem_append.mp hn with z | z
            · exact unw_ok 1 (by omega) _ n z
            · exact unw_ok 6 (by omega) _ n z
          · rename_i w40
            simp only [Option.some.injEq, Prod.mk.injEq] at h
            rw [← h.1] at hn
            rcases List.mem_append.mp hn with z | z
            · exact unw_ok 1 (by omega) _ n z
            · rcases List.mem_cons.mp z with z | z
              · rw [z]
                rcases ua.1 with x | x | x
                · exact Or.inr (Or.inr (Or.inl x.1))
                · exact absurd x.1 w40
                · exact Or.inr (Or.inr (Or.inr ⟨x.1, x.2.1⟩))
              · exact unw_ok 6 (by omega) _ n z
        · exact absurd h (by simp)
    · split at h
      · split at h
        · split at h
          · exact absurd h (by simp)
          · simp only [Option.some.injEq, Prod.mk.injEq] at h
            rw [← h.1] at hn
            exact unw_ok 1 (by omega) _ n hn
        · split at h
          · exact absurd h (by simp)
          · simp only [Option.some.injEq, Prod.mk.injEq] at h
            rw [← h.1] at hn
            exact unw_ok 1 (by omega) _ n hn
      · split at h
        · exact absurd h (by simp)
        · rename_i hr
          split at h
          · split at h
            · exact absurd h (by simp)
            · simp only [Option.some.injEq, Prod.mk.injEq] at h
              rw [← h.1] at hn
              exact unw_ok 4 (by omega) _ n hn
          · simp only [Option.some.injEq, Prod.mk.injEq] at h
            rw [← h.1] at hn
            exact unw_ok _ (by omega) _ n hn
  have key := run_ind (fun ts R => ∀ E, R = Sum.inr E → ∀ n, n ∈ E → okN n)
    (fun ws o m E h n hn => by
      rw [run_nil] at h
      split at h
      · simp only [Sum.inr.injEq] at h
        rw [← h] at hn
        exact unw_ok 1 (by omega) _ n hn
      · exact absurd h (by simp))
    (fun t ts E h => absurd h (by simp))
    (fun k v ts ws o e ws2 o2 m2 R hw h1 h2 E h n hE => by
      obtain ⟨E2, r1, r2⟩ := addE_inr h
      rw [r2] at hE
      rcases List.mem_append.mp hE with z | z
      · exact jk k ws o e ws2 o2 m2 hw h1 n z
      · exact h2 E2 r1 n z)
    (fun k v ts ws R hk h2 E h n hE => by
      obtain ⟨E2, r1, r2⟩ := addE_inr h
      rw [r2] at hE
      rcases List.mem_append.mp hE with z | z
      · rcases List.mem_cons.mp z with z | z
        · rw [z]
          rcases hk with y | y
          · exact Or.inl y
          · exact Or.inr (Or.inl y)
        · exact unw_ok 6 (by omega) _ n z
      · exact h2 E2 r1 n z)
    (fun k v ts R hk h2 E h n hE => by
      obtain ⟨E2, r1, r2⟩ := addE_inr h
      rw [r2] at hE
      exact h2 E2 r1 n hE)
    (fun k v hk E h => absurd h (by simp))
    (fun k v t2 ts hk E h => absurd h (by simp))
    (fun k v v2 ts R hk h2 E h n hE => by
      obtain ⟨E2, r1, r2⟩ := addE_inr h
      rw [r2] at hE
      exact h2 E2 r1 n hE)
  exact key ts.length ts ws o m (Nat.le_refl _) hm ha hs E h
theorem addE_inl {e : List (Nat × Int32)} {c i : Nat} {x : Nat ⊕ List (Nat × Int32)} (h : addE e c x = Sum.inl i) : ∃ j, x = Sum.inl j ∧ i = j + c := by
  cases x with
  | inl j => exact ⟨j, rfl, by unfold addE at h; simp only [Sum.inl.injEq] at h; exact h.symm⟩
  | inr E => exact absurd h (by unfold addE; simp)
/-- how a line that reads well is built -/
theorem lr_cases {k : Nat} {v : Int32} {ts E : List (Nat × Int32)} (h : lr ((k, v) :: ts) = Sum.inr E) : (k = 3 ∧ ∃ v2 ts2, ts = (61, v2) :: ts2 ∧ run ts2 [] 0 1 = Sum.inr E) ∨ (4 ≤ k ∧ k ≤ 12 ∧ sp k = 0 ∧ ts = [] ∧ E = []) ∨ (4 ≤ k ∧ k ≤ 12 ∧ 1 ≤ sp k ∧ run ts [] (sp k - 1) 1 = Sum.inr E) := by
  rw [lr_eq] at h
  split at h
  · rename_i q
    refine Or.inl ⟨q, ?_⟩
    cases ts with
    | nil => exact absurd h (by unfold lrN; simp)
    | cons t2 ts2 =>
      obtain ⟨k2, v2⟩ := t2
      have h : (if k2 = 61 then addE [] 2 (run ts2 [] 0 1) else Sum.inl 1) = Sum.inr E := h
      split at h
      · rename_i q2
        obtain ⟨E2, r1, r2⟩ := addE_inr h
        exact ⟨v2, ts2, by rw [q2], by rw [r1, r2]; rfl⟩
      · exact absurd h (by simp)
  · split at h
    · rename_i q
      split at h
      · rename_i q2
        cases ts with
        | nil =>
          have h : Sum.inr [] = (Sum.inr E : Nat ⊕ List (Nat × Int32)) := h
          simp only [Sum.inr.injEq] at h
          exact Or.inr (Or.inl ⟨q.1, q.2, q2, rfl, h.symm⟩)
        | cons t2 ts2 => exact absurd h (by unfold lrZ; simp)
      · obtain ⟨E2, r1, r2⟩ := addE_inr h
        exact Or.inr (Or.inr ⟨q.1, q.2, by omega, by rw [r1, r2]; rfl⟩)
    · exact absurd h (by simp)
theorem lr_le {ts : List (Nat × Int32)} {i : Nat} (h : lr ts = Sum.inl i) : i ≤ ts.length := by
  cases ts with
  | nil =>
    have h : Sum.inl 0 = (Sum.inl i : Nat ⊕ List (Nat × Int32)) := h
    simp only [Sum.inl.injEq] at h
    omega
  | cons t ts =>
    obtain ⟨k, v⟩ := t
    simp only [List.length_cons]
    rw [lr_eq] at h
    split at h
    · cases ts with
      | nil =>
        have h : Sum.inl 1 = (Sum.inl i : Nat ⊕ List (Nat × Int32)) := h
        simp only [Sum.inl.injEq] at h
        omega
      | cons t2 ts2 =>
        have h : (if t2.1 = 61 then addE [] 2 (run ts2 [] 0 1) else Sum.inl 1) = Sum.inl i := h
        simp only [List.length_cons]
        split at h
        · obtain ⟨j, r1, r2⟩ := addE_inl h
          have := run_le (ws := []) (by omega) trivial trivial r1
          omega
        · simp only [Sum.inl.injEq] at h
          omega
    · split at h
      · split at h
        · cases ts with
          | nil => exact absurd h (by unfold lrZ; simp)
          | cons t2 ts2 =>
            have h : Sum.inl 1 = (Sum.inl i : Nat ⊕ List (Nat × Int32)) := h
            simp only [Sum.inl.injEq] at h
            simp only [List.length_cons]
            omega
        · obtain ⟨j, r1, r2⟩ := addE_inl h
          have := run_le (ws := []) (by omega) trivial trivial r1
          omega
      · simp only [Sum.inl.injEq] at h
        omega
theorem last_cons {t : Nat × Int32} {ts ts0 : List (Nat × Int32)} {v : Int32} (h : t :: ts = ts0 ++ [(1, v)]) : (ts = [] ∧ t.1 = 1) ∨ ∃ ts1, ts = ts1 ++ [(1, v)] := by
  cases ts0 with
  | nil =>
    simp only [List.nil_append, List.cons.injEq] at h
    exact Or.inl ⟨h.2, by rw [h.1]⟩
  | cons t0 ts0 =>
    simp only [List.cons_append, List.cons.injEq] at h
    exact Or.inr ⟨ts0, h.2⟩
/-- a line that ends with what is no token fails before its end -/
theorem lr_bad {ts ts0 : List (Nat × Int32)} {v : Int32} (h : ts = ts0 ++ [(1, v)]) : ∃ i, lr ts = Sum.inl i ∧ i < ts.length := by
  cases ts with
  | nil => exact absurd h (by simp)
  | cons t ts =>
    obtain ⟨k, v0⟩ := t
    simp only [List.length_cons]
    rw [lr_eq]
    rcases last_cons h with ⟨z1, z2⟩ | ⟨ts1, z⟩
    · have z2 : k = 1 := z2
      rw [if_neg (by omega), if_neg (by omega)]
      exact ⟨0, rfl, by omega⟩
    · by_cases q3 : k = 3
      · rw [if_pos q3]
        cases ts with
        | nil => exact absurd z (by simp)
        | cons t2 ts2 =>
          simp only [List.length_cons]
          show ∃ i, (if t2.1 = 61 then addE [] 2 (run ts2 [] 0 1) else Sum.inl 1) = Sum.inl i ∧ i < _
          by_cases q : t2.1 = 61
          · rw [if_pos q]
            rcases last_cons z with ⟨-, y⟩ | ⟨ts3, y⟩
            · omega
            · obtain ⟨i, r1, r2⟩ := run_bad (ws := []) (o := 0) (m := 1) (by omega) trivial trivial y
              exact ⟨i + 2, by rw [r1]; rfl, by omega⟩
          · rw [if_neg q]
            exact ⟨1, rfl, by omega⟩
      · rw [if_neg q3]
        by_cases q4 : 4 ≤ k ∧ k ≤ 12
        · rw [if_pos q4]
          by_cases q0 : sp k = 0
          · rw [if_pos q0]
            cases ts with
            | nil => exact absurd z (by simp)
            | cons t2 ts2 => exact ⟨1, rfl, by simp only [List.length_cons]; omega⟩
          · rw [if_neg q0]
            obtain ⟨i, r1, r2⟩ := run_bad (ws := []) (o := sp k - 1) (m := 1) (by omega) trivial trivial z
            exact ⟨i + 1, by rw [r1]; rfl, by omega⟩
        · rw [if_neg q4]
          exact ⟨0, rfl, by omega⟩
theorem lr_nm {k b : Nat} {v : Int32} {ts E : List (Nat × Int32)} (hn : ∀ t, t ∈ (k, v) :: ts → t.1 = 3 → ∃ id : Nat, id < b ∧ t.2 = nI id) (h : lr ((k, v) :: ts) = Sum.inr E) : ∀ n, n ∈ E → okN n ∧ (n.1 = 3 → ∃ id : Nat, id < b ∧ n.2 = nI id) := by
  rcases lr_cases h with ⟨-, v2, ts2, e1, e2⟩ | ⟨-, -, -, -, e⟩ | ⟨-, -, -, e⟩
  · exact fun n hE => ⟨run_ok (ws := []) (by omega) trivial trivial e2 n hE, run_nm (ws := []) (by omega) trivial trivial (fun t ht => hn t (by rw [e1]; exact List.mem_cons_of_mem _ (List.mem_cons_of_mem _ ht))) e2 n hE⟩
  · intro n hE
    rw [e] at hE
    exact absurd hE (by simp)
  · exact fun n hE => ⟨run_ok (ws := []) (by omega) trivial trivial e n hE, run_nm (ws := []) (by omega) trivial trivial (fun t ht => hn t (List.mem_cons_of_mem _ ht)) e n hE⟩
/-- a list in an array, upwards -/
def sq1 {α : Type} (c : α → Int32) (a : Nat → Int32) : Nat → List α → Prop
  | _, [] => True
  | i, n :: E => a i = c n ∧ sq1 c a (i + 1) E
theorem sq1.sh {α : Type} {c : α → Int32} {a b : Nat → Int32} : ∀ {E : List α} {i i2 : Nat}, sq1 c a i E → (∀ j, j < E.length → b (i2 + j) = a (i + j)) → sq1 c b i2 E := by
  intro E
  induction E with
  | nil => intro _ _ _ _; exact trivial
  | cons n E ih =>
    intro i i2 h hb
    refine ⟨(hb 0 (by simp)).trans h.1, ih h.2 (fun j hj => ?_)⟩
    have := hb (j + 1) (by simp only [List.length_cons]; omega)
    rw [show i2 + 1 + j = i2 + (j + 1) by omega, show i + 1 + j = i + (j + 1) by omega]
    exact this
theorem sIs.dr {α : Type} {c : α → Int32} {a : Nat → Int32} : ∀ {X Y : List α}, sIs c a (X ++ Y) → sIs c a Y := by
  intro X
  induction X with
  | nil => intro Y h; exact h
  | cons x X ih => intro Y h; exact ih h.2
theorem sIs.sq {α : Type} {c : α → Int32} {a : Nat → Int32} : ∀ {E F : List α}, sIs c a (E.reverse ++ F) → sq1 c a F.length E := by
  intro E
  induction E with
  | nil => intro _ _; exact trivial
  | cons n E ih =>
    intro F h
    rw [List.reverse_cons, List.append_assoc] at h
    have h : sIs c a (E.reverse ++ (n :: F)) := h
    exact ⟨h.dr.1, ih h⟩
theorem tkM.sh {τ τ2 : St} : ∀ {ts : List (Nat × Int32)} {i i2 : Nat}, tkM τ i ts → (∀ j, j < ts.length → τ2.2 1 (i2 + j) = τ.2 1 (i + j) ∧ τ2.2 2 (i2 + j) = τ.2 2 (i + j)) → tkM τ2 i2 ts := by
  intro ts
  induction ts with
  | nil => intro _ _ _ _; exact trivial
  | cons t ts ih =>
    intro i i2 h hb
    obtain ⟨b1, b2⟩ := hb 0 (by simp)
    refine ⟨h.1, b1.trans h.2.1, fun q => b2.trans (h.2.2.1 q), ih h.2.2.2 (fun j hj => ?_)⟩
    have := hb (j + 1) (by simp only [List.length_cons]; omega)
    rw [show i2 + 1 + j = i2 + (j + 1) by omega, show i + 1 + j = i + (j + 1) by omega]
    exact this
/-- line l on both sides -/
def lnR (σ τ : St) (l : Nat) : Prop := ∃ (k : Nat) (v : Int32) (ts E : List (Nat × Int32)), τ.2 4 l = nI (ts.length + 1) ∧ ts.length + 1 ≤ 48 ∧ tkM τ (48 * l) ((k, v) :: ts) ∧ (∀ t, t ∈ (k, v) :: ts → t.1 = 3 → ∃ id : Nat, id < 12 ∧ t.2 = nI id) ∧ lr ((k, v) :: ts) = Sum.inr E ∧ E.length ≤ 16 ∧ σ.2 12 l = nI k ∧ (k = 3 → σ.2 13 l = v) ∧ σ.2 14 l = nI E.length ∧ τ.2 5 l = nI E.length ∧ sq1 (fun n => nI n.1) (σ.2 15) (16 * l) E ∧ sq1 opC (σ.2 16) (16 * l) E
theorem lnR.cg {σ σ2 τ τ2 : St} {l : Nat} (h : lnR σ τ l) (h4 : τ2.2 4 l = τ.2 4 l) (h5 : τ2.2 5 l = τ.2 5 l) (h12 : ∀ j, j < 48 → τ2.2 1 (48 * l + j) = τ.2 1 (48 * l + j) ∧ τ2.2 2 (48 * l + j) = τ.2 2 (48 * l + j)) (c12 : σ2.2 12 l = σ.2 12 l) (c13 : σ2.2 13 l = σ.2 13 l) (c14 : σ2.2 14 l = σ.2 14 l) (c15 : ∀ j, j < 16 → σ2.2 15 (16 * l + j) = σ.2 15 (16 * l + j) ∧ σ2.2 16 (16 * l + j) = σ.2 16 (16 * l + j)) : lnR σ2 τ2 l := by
  obtain ⟨k, v, ts, E, a1, a2, a3, a4, a5, a6, a7, a8, a9, a10, a11, a12⟩ := h
  exact ⟨k, v, ts, E, h4.trans a1, a2, a3.sh (fun j hj => h12 j (by simp only [List.length_cons] at hj; omega)), a4, a5, a6, c12.trans a7, fun q => c13.trans (a8 q), c14.trans a9, h5.trans a10, a11.sh (fun j hj => (c15 j (by omega)).1), a12.sh (fun j hj => (c15 j (by omega)).2)⟩
theorem lnR.s {σ τ : St} {l : Nat} (h : lnR σ τ l) : sRel (σ.2 12 l) (τ.2 1 (48 * l)) := by
  obtain ⟨k, v, ts, E, a1, a2, a3, a4, a5, a6, a7, -⟩ := h
  rw [a7, a3.2.1]
  have f : ∀ k, k ≤ 12 → 3 ≤ k → sRel (nI k) (nI (kM k)) := by
    intro k h1 h2
    have hk : k = 3 ∨ k = 4 ∨ k = 5 ∨ k = 6 ∨ k = 7 ∨ k = 8 ∨ k = 9 ∨ k = 10 ∨ k = 11 ∨ k = 12 := by omega
    unfold sRel
    rcases hk with rfl | rfl | rfl | rfl | rfl | rfl | rfl | rfl | rfl | rfl <;> decide
  rcases lr_cases a5 with ⟨h, -⟩ | ⟨h1, h2, -⟩ | ⟨h1, h2, -⟩
  · exact f k (by omega) (by omega)
  · exact f k h2 (by omega)
  · exact f k h2 (by omega)
