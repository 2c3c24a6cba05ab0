/-! PURE ROWS 30: the console works a line's nodes out. -/
def wFr (σ σ2 : St) : Prop := (∀ k, k ≠ 19 → k ≠ 22 → σ2.1 k = σ.1 k) ∧ ∀ k, k ≠ 21 → σ2.2 k = σ.2 k
theorem wFr.tr {a b c : St} (h : wFr a b) (h2 : wFr b c) : wFr a c := ⟨fun k x y => (h2.1 k x y).trans (h.1 k x y), fun k x => (h2.2 k x).trans (h.2 k x)⟩
theorem envC.w {σ σ2 : St} {A : Nat → Nat → Int32} (h : envC σ A) (hf : wFr σ σ2) : envC σ2 A := ⟨by rw [hf.2 19 (by decide)]; exact h.1, by rw [hf.2 20 (by decide)]; exact h.2.1, by rw [hf.2 22 (by decide)]; exact h.2.2.1, by rw [hf.2 23 (by decide)]; exact h.2.2.2⟩
theorem okN_ar {n : Nat × Int32} (h : okN n) : n.1 = 2 ∨ n.1 = 3 ∨ (¬ n.1 = 2 ∧ ¬ n.1 = 3 ∧ (1 ≤ rk n.1 ∨ (13 ≤ n.1 ∧ n.1 ≤ 20)) ∧ (ar n.1 = 1 ∨ ar n.1 = 2)) := by
  by_cases q2 : n.1 = 2
  · exact Or.inl q2
  by_cases q3 : n.1 = 3
  · exact Or.inr (Or.inl q3)
  refine Or.inr (Or.inr ⟨q2, q3, ?_, ?_⟩)
  · rcases h with z | z | z | z
    · exact absurd z q2
    · exact absurd z q3
    · exact Or.inl z
    · exact Or.inr z
  · unfold ar
    rw [if_neg (by omega)]
    have := pt_le n.1
    repeat' split
    all_goals omega
theorem vN_c1 {k : Nat} {v x sd : Int32} {s : List Int32} {A : Nat → Nat → Int32} (q2 : ¬ k = 2) (q3 : ¬ k = 3) (h : ar k = 1) : vN 1 A (k, v) (x :: s, sd) = some ((o1 1 A k x sd).1 :: s, (o1 1 A k x sd).2) ∧ vN 1 A (k, v) ([], sd) = none := by
  unfold vN
  exact ⟨by rw [if_neg q2, if_neg q3, if_pos h], by rw [if_neg q2, if_neg q3, if_pos h]⟩
theorem vN_c2 {k : Nat} {v x y sd : Int32} {s : List Int32} {A : Nat → Nat → Int32} (q2 : ¬ k = 2) (q3 : ¬ k = 3) (h : ¬ ar k = 1) : vN 1 A (k, v) (y :: x :: s, sd) = some (o2 1 A k x y :: s, sd) ∧ vN 1 A (k, v) ([], sd) = none ∧ vN 1 A (k, v) ([x], sd) = none := by
  unfold vN
  exact ⟨by rw [if_neg q2, if_neg q3, if_neg h], by rw [if_neg q2, if_neg q3, if_neg h], by rw [if_neg q2, if_neg q3, if_neg h]⟩
theorem pu_node {N k : Nat} {v : Int32} {σ : St} {A : Nat → Nat → Int32} {s s2 : List Int32} {sd2 : Int32} (hok : okN (k, v)) (hnm : k = 3 → ∃ id : Nat, id < 12 ∧ v = nI id) (hA : envC σ A) (hs : sIs id (σ.2 21) s) (h22 : σ.1 22 = nI s.length) (hl : s.length < 16) (hv : vN 1 A (k, v) (s, σ.1 19) = some (s2, sd2)) : ∃ σ2 : St, J_Machine_workOutNode N (nI k) (opC (k, v)) σ = some σ2 ∧ sIs id (σ2.2 21) s2 ∧ σ2.1 22 = nI s2.length ∧ σ2.1 19 = sd2 ∧ wFr σ σ2 ∧ s2.length ≤ s.length + 1 := by
  have hk : k ≤ 124 := hok.lt
  generalize start : J_Machine_workOutNode N (nI k) (opC (k, v)) σ = X
  rw [J_Machine_workOutNode, pu_parts hk, ax_bs, h22] at start
  have push : ∀ (w : Int32) (t : List Int32) (τ : St), t.length < 16 → sIs id (τ.2 21) t → τ.1 22 = nI t.length → (∀ k, k ≠ 19 → k ≠ 22 → τ.1 k = σ.1 k) → (∀ k, k ≠ 21 → τ.2 k = σ.2 k) → t.length ≤ s.length → J_Machine_workOutNode_111 N (sA τ 21 t.length w) = X → ∃ σ2 : St, X = some σ2 ∧ sIs id (σ2.2 21) (w :: t) ∧ σ2.1 22 = nI (w :: t).length ∧ σ2.1 19 = τ.1 19 ∧ wFr σ σ2 ∧ (w :: t).length ≤ s.length + 1 := by
    intro w t τ h1 h2 h3 h4 h5 h6 h7
    rw [J_Machine_workOutNode_111, show (sA τ 21 t.length w).1 22 = nI t.length from h3, nI_1, ax_let] at h7
    refine ⟨_, h7.symm, ?_, rfl, rfl, ⟨fun k a b => ?_, fun k a => ?_⟩, by rw [List.length_cons]; omega⟩
    · show sIs id ((sA τ 21 t.length w).2 21) (w :: t)
      rw [sA_self]
      exact h2.push w
    · show upd τ.1 22 _ k = _
      rw [pk_un b, h4 k a b]
    · show (sA τ 21 t.length w).2 k = _
      rw [sA_ne _ _ _ a, h5 k a]
  rcases okN_ar hok with q | q | ⟨q2, q3, q4, q5⟩
  · have q : k = 2 := q
    subst q
    have hv : some (v :: s, σ.1 19) = some (s2, sd2) := hv
    simp only [Option.some.injEq, Prod.mk.injEq] at hv
    obtain ⟨rfl, rfl⟩ := hv
    rw [show ar 2 = 0 from rfl, pk_sub (Nat.zero_le _), Nat.sub_zero, ax_let, if_pos (show nI 0 = 0 from rfl), if_neg (show ¬ nI 2 = 3 by decide), show (sF σ 22 (nI s.length)).1 22 = nI s.length from rfl, J_Machine_workOutNode_42, if_pos (pu_inB hl (by decide)), nI_clamp (by omega), ax_let] at start
    exact push v s (sF σ 22 (nI s.length)) hl hs rfl (fun k _ b => if_neg b) (fun _ _ => rfl) (Nat.le_refl _) start
  · have q : k = 3 := q
    subst q
    obtain ⟨id', hid, rfl⟩ := hnm rfl
    have hv : some (A 7 (nI id').toNatClampNeg :: s, σ.1 19) = some (s2, sd2) := hv
    rw [nI_clamp (by omega)] at hv
    simp only [Option.some.injEq, Prod.mk.injEq] at hv
    obtain ⟨rfl, rfl⟩ := hv
    rw [opC_nm hid, show ar 3 = 0 from rfl, pk_sub (Nat.zero_le _), Nat.sub_zero, ax_let, if_pos (show nI 0 = 0 from rfl), if_pos (show nI 3 = 3 from rfl), if_pos (pu_inB hid (by decide)), nI_clamp (by omega), show (sF σ 22 (nI s.length)).1 22 = nI s.length from rfl, show (sF σ 22 (nI s.length)).2 19 id' = A 7 id' from hA.1 id' hid, J_Machine_workOutNode_42, if_pos (pu_inB hl (by decide)), nI_clamp (by omega), ax_let] at start
    exact push (A 7 id') s (sF σ 22 (nI s.length)) hl hs rfl (fun k _ b => if_neg b) (fun _ _ => rfl) (Nat.le_refl _) start
  · have q2 : ¬ k = 2 := q2
    have q3 : ¬ k = 3 := q3
    have q4 : 1 ≤ rk k ∨ (13 ≤ k ∧ k ≤ 20) := q4
    rcases q5 with q5 | q5
    · have q5 : ar k = 1 := q5
      cases s with
      | nil =>
        rw [(vN_c1 (x := 0) (s := []) q2 q3 q5).2] at hv
        exact absurd hv (by simp)
      | cons x s =>
        rw [(vN_c1 q2 q3 q5).1] at hv
        simp only [Option.some.injEq, Prod.mk.injEq] at hv
        obtain ⟨rfl, rfl⟩ := hv
        simp only [List.length_cons] at hl h22 start ⊢
        have hb : inB (nI s.length) 16 = true := pu_inB (by omega) (by decide)
        rw [q5, pk_sub (by omega), show s.length + 1 - 1 = s.length by omega, ax_let, if_neg (show ¬ nI 1 = 0 by decide), if_pos (show nI 1 = 1 from rfl), show (sF σ 22 (nI s.length)).1 22 = nI s.length from rfl, if_pos hb, nI_clamp (by omega), show (sF σ 22 (nI s.length)).2 21 s.length = x from hs.1, pu_of1 (A := A) (σ := sF σ 22 (nI s.length)) q5 q4 hA, ax_bs, if_pos hb, ax_let] at start
        exact push _ s (sF (sF σ 22 (nI s.length)) 19 (o1 1 A k x (σ.1 19)).2) (by omega) hs.2 rfl (fun k a b => by show upd (upd σ.1 22 _) 19 _ k = _; rw [pk_un a, pk_un b]) (fun _ _ => rfl) (by rw [List.length_cons]; omega) start
    · have q5 : ar k = 2 := q5
      cases s with
      | nil =>
        rw [(vN_c2 (x := 0) (y := 0) (s := []) q2 q3 (by omega)).2.1] at hv
        exact absurd hv (by simp)
      | cons y s =>
      cases s with
      | nil =>
        rw [(vN_c2 (x := y) (y := 0) (s := []) q2 q3 (by omega)).2.2] at hv
        exact absurd hv (by simp)
      | cons x s =>
        rw [(vN_c2 q2 q3 (by omega)).1] at hv
        simp only [Option.some.injEq, Prod.mk.injEq] at hv
        obtain ⟨rfl, rfl⟩ := hv
        simp only [List.length_cons] at hl h22 start ⊢
        have hb : inB (nI s.length) 16 = true := pu_inB (by omega) (by decide)
        rw [q5, pk_sub (by omega), show s.length + 1 + 1 - 2 = s.length by omega, ax_let, if_neg (show ¬ nI 2 = 0 by decide), if_neg (show ¬ nI 2 = 1 by decide), show (sF σ 22 (nI s.length)).1 22 = nI s.length from rfl, if_pos hb, nI_1, if_pos (pu_inB (by omega) (by decide)), nI_clamp (by omega), nI_clamp (by omega), show (sF σ 22 (nI s.length)).2 21 s.length = x from hs.2.1, show (sF σ 22 (nI s.length)).2 21 (s.length + 1) = y from hs.1, pu_of2 (A := A) (σ := sF σ 22 (nI s.length)) q5 q4 hA, ax_bs, if_pos hb, ax_let] at start
        exact push _ s (sF σ 22 (nI s.length)) (by omega) hs.2.2 rfl (fun k _ b => if_neg b) (fun _ _ => rfl) (by simp only [List.length_cons]; omega) start
theorem pu_wo {N l e : Nat} {A : Nat → Nat → Int32} (hl : l < 28) (he : e ≤ 16) : ∀ (E : List (Nat × Int32)) (i : Nat) (s : List Int32) (σ : St) (f : Nat) (s2 : List Int32) (sd2 : Int32), (∀ n, n ∈ E → okN n ∧ (n.1 = 3 → ∃ id : Nat, id < 12 ∧ n.2 = nI id)) → sq1 (fun n => nI n.1) (σ.2 15) i E → sq1 opC (σ.2 16) i E → σ.2 14 l = nI e → i + E.length = 16 * l + e → envC σ A → sIs id (σ.2 21) s → σ.1 22 = nI s.length → s.length + E.length ≤ 16 → exV 1 A E (s, σ.1 19) = some (s2, sd2) → E.length < f → ∃ σ2 : St, J_Machine_workOut_12 N f (nI l) (nI (16 * l)) (nI i) σ = some σ2 ∧ sIs id (σ2.2 21) s2 ∧ σ2.1 22 = nI s2.length ∧ σ2.1 19 = sd2 ∧ wFr σ σ2 := by
  intro E
  induction E with
  | nil =>
    intro i s σ f s2 sd2 _ _ _ h14 hi hA hs h22 _ hv hf
    obtain ⟨f, rfl⟩ : ∃ k, f = k + 1 := ⟨f - 1, by simp only [List.length_nil] at hf; omega⟩
    have hv : some (s, σ.1 19) = some (s2, sd2) := hv
    simp only [Option.some.injEq, Prod.mk.injEq] at hv
    obtain ⟨rfl, rfl⟩ := hv
    simp only [List.length_nil] at hi
    refine ⟨σ, ?_, hs, h22, rfl, fun _ _ _ => rfl, fun _ _ => rfl⟩
    rw [J_Machine_workOut_12, if_pos (pu_inB hl (by decide)), nI_clamp (by omega), h14, nI_add, if_pos (nI_le (by omega) (by omega))]
  | cons n E ih =>
    intro i s σ f s2 sd2 hok h15 h16 h14 hi hA hs h22 hlen hv hf
    obtain ⟨f, rfl⟩ : ∃ k, f = k + 1 := ⟨f - 1, by omega⟩
    obtain ⟨k, v⟩ := n
    simp only [List.length_cons] at hi hlen hf
    have hv : (match vN 1 A (k, v) (s, σ.1 19) with | none => none | some q => exV 1 A E q) = some (s2, sd2) := hv
    cases g : vN 1 A (k, v) (s, σ.1 19) with
    | none => rw [g] at hv; exact absurd hv (by simp)
    | some z =>
      obtain ⟨s3, sd3⟩ := z
      rw [g] at hv
      have hv : exV 1 A E (s3, sd3) = some (s2, sd2) := hv
      obtain ⟨o1', o2'⟩ := hok (k, v) (List.mem_cons_self ..)
      obtain ⟨σ3, j1, j2, j3, j4, j5, j6⟩ := pu_node (N := N) o1' o2' hA hs h22 (by omega) g
      have e15 : σ.2 15 i = nI k := h15.1
      have e16 : σ.2 16 i = opC (k, v) := h16.1
      obtain ⟨σ4, m1, m2, m3, m4, m5⟩ := ih (i + 1) s3 σ3 f s2 sd2 (fun n hn => hok n (List.mem_cons_of_mem _ hn)) (by rw [j5.2 15 (by decide)]; exact h15.2) (by rw [j5.2 16 (by decide)]; exact h16.2) (by rw [j5.2 14 (by decide)]; exact h14) (by omega) (hA.w j5) j2 j3 (by omega) (by rw [j4]; exact hv) (by omega)
      refine ⟨σ4, ?_, m2, m3, m4, j5.tr m5⟩
      rw [J_Machine_workOut_12, if_pos (pu_inB hl (by decide)), nI_clamp (by omega), h14, nI_add, if_neg (nI_ge (by omega) (by omega)), if_pos (pu_inB (by omega) (by decide)), if_pos (pu_inB (by omega) (by decide)), nI_clamp (by omega), e15, e16, j1, ax_bsV, nI_1, ax_let]
      exact m1
theorem pu_workout {N l : Nat} {A : Nat → Nat → Int32} {σ : St} {E : List (Nat × Int32)} {s2 : List Int32} {sd2 : Int32} (hN1 : 100 ≤ N) (hl : l < 28) (hE : E.length ≤ 16) (hok : ∀ n, n ∈ E → okN n ∧ (n.1 = 3 → ∃ id : Nat, id < 12 ∧ n.2 = nI id)) (h15 : sq1 (fun n => nI n.1) (σ.2 15) (16 * l) E) (h16 : sq1 opC (σ.2 16) (16 * l) E) (h14 : σ.2 14 l = nI E.length) (hA : envC σ A) (hv : exV 1 A E ([], σ.1 19) = some (s2, sd2)) : ∃ σ2 : St, J_Machine_workOut N (nI l) σ = some σ2 ∧ sIs id (σ2.2 21) s2 ∧ σ2.1 19 = sd2 ∧ wFr σ σ2 := by
  obtain ⟨σ2, g1, g2, g3, g4, g5⟩ := pu_wo (N := N) hl hE E (16 * l) [] (sF σ 22 0) N s2 sd2 hok h15 h16 h14 rfl hA trivial rfl (by simp only [List.length_nil]; omega) hv (by omega)
  refine ⟨σ2, ?_, g2, g4, wFr.tr (b := sF σ 22 0) ⟨fun k _ b => if_neg b, fun _ _ => rfl⟩ g5⟩
  rw [J_Machine_workOut, ax_let, show nI l * 16 = nI (16 * l) by rw [show (16 : Int32) = nI 16 from rfl, pk_mul, Nat.mul_comm], ax_let]
  exact g1
