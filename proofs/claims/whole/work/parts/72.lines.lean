/-! PURE ROWS 23: one working out; all of a line; what a run's end says. -/
theorem pu_work {N line p o rl T hi : Nat} {A : Nat → Nat → Int32} {τ : St} {ts E : List (Nat × Int32)} (hN1 : 300 ≤ N) (hrl : rl ≤ 1) (hln : line ≤ 28) (hT : τ.2 4 line = nI T) (hT48 : T ≤ 48) (hp : p + ts.length = 48 * line + T) (hts : ts.length ≤ 54) (ht : tkM τ p ts) (hno : nmO ts) (hrun : run ts [] o 1 = Sum.inr E) (hA : envIs τ A) (hhi : τ.1 12 = nI hi) (hhi60 : hi ≤ 60) : wkR rl A τ (48 * line + T) o [] [] hi 0 (J_Mod_work N (nI line) (nI p) (nI rl) τ) E := by
  have fA : mFr τ (sF (sF τ 8 0) 9 0) := ⟨fun k _ k2 k3 _ _ _ => by show upd (upd τ.1 8 0) 9 0 k = _; rw [pk_un k3, pk_un k2], fun _ _ _ _ => rfl⟩
  rw [J_Mod_work, if_pos (pu_inB (by omega) (by decide)), nI_clamp (by omega), hT, pu_48, nI_add, ax_let, ax_let, ax_let]
  have h := mw_loop (N := N) (rl := rl) (en := 48 * line + T) (A := A) hN1 hrl (by omega) ts.length ts [] o 1 p [] [] hi E (sF (sF τ 8 0) 9 0) N (Nat.le_refl _) (ht.m fA) hno hp hrun (Nat.le_refl _) (hA.m fA) ⟨rfl, trivial, rfl, trivial, rfl, trivial, hhi⟩ rfl trivial trivial (fun x => by omega) (by simp only [List.length_nil]; omega) ⟨hhi60, fun x hx => absurd hx (by simp)⟩ (by omega)
  exact wkR.step (τ1 := sF (sF τ 8 0) 9 0) (e := []) (a := 0) (n1 := 0) xv.nil xh.nil rfl (by show τ.1 11 = _; rw [nI_0, Int32.add_zero]) fA h
theorem vN_sd {A : Nat → Nat → Int32} {n : Nat × Int32} {p q : List Int32 × Int32} (h : vN 0 A n p = some q) : q.2 = p.2 := by
  have e : ∀ k x sd, (o1 0 A k x sd).2 = sd := by
    intro k x sd
    unfold o1
    by_cases q1 : k = 21
    · rw [if_pos q1]
    by_cases q2 : k = 33
    · rw [if_neg q1, if_pos q2]
    by_cases q3 : k = 64
    · rw [if_neg q1, if_neg q2, if_pos q3]
    rw [if_neg q1, if_neg q2, if_neg q3, if_pos rfl]
  unfold vN at h
  split at h
  · injection h with h
    rw [← h]
  · split at h
    · injection h with h
      rw [← h]
    · split at h
      · split at h
        · injection h with h
          rw [← h]
          exact e _ _ _
        · exact absurd h (by simp)
      · split at h
        · injection h with h
          rw [← h]
        · exact absurd h (by simp)
/-- what is worked out for nothing leaves the seed -/
theorem exV_sd {A : Nat → Nat → Int32} : ∀ (E : List (Nat × Int32)) (p q : List Int32 × Int32), exV 0 A E p = some q → q.2 = p.2 := by
  intro E
  induction E with
  | nil =>
    intro p q h
    have : p = q := by injection h
    rw [this]
  | cons n E ih =>
    intro p q h
    have h : (match vN 0 A n p with | none => none | some q => exV 0 A E q) = some q := h
    cases g : vN 0 A n p with
    | none => rw [g] at h; exact absurd h (by simp)
    | some z =>
      rw [g] at h
      exact (ih z q h).trans (vN_sd g)
/-- how the adding ends behind its checks -/
def addF (N : Nat) (τ : St) : Option (Int32 × St) := if 16 < (τ.1 11) then some ((-2), τ) else (if 6 < (τ.1 12) then some ((-2), τ) else (if (τ.1 1) = 28 then some ((-2), τ) else (if (τ.1 13) ≤ 12 then J_Mod_add_222 N N 0 τ else some ((-2), τ))))
theorem pu_works {N T fr : Nat} {A : Nat → Nat → Int32} (hN1 : 300 ≤ N) (hT48 : T ≤ 48) : ∀ (o : Nat) (ts E : List (Nat × Int32)) (q hi : Nat) (τ : St) (f : Nat), τ.2 4 28 = nI T → q + 1 + ts.length = 1344 + T → ts.length ≤ 54 → τ.1 10 = nI q → tkM τ (q + 1) ts → nmO ts → run ts [] o 1 = Sum.inr E → envIs τ A → τ.1 12 = nI hi → hi ≤ 60 → (fr = 2 ∨ (fr = 1 ∧ ∃ w : Int32, ¬ w = 0 ∧ ∀ σ : St, σ.2 1 = τ.2 1 → J_Mod_wants N (σ.2 1 1344) σ = some (w, σ))) → o + 1 < f →
    ∃ (τ2 : St) (hs2 : List Nat) (hi2 : Nat), J_Mod_add_120 N f (nI fr) τ = addF N τ2 ∧ mFr τ τ2 ∧ τ2.1 11 = τ.1 11 + nI E.length ∧ τ2.1 12 = nI hi2 ∧ hi2 ≤ 60 ∧ xh E [] hi hs2 hi2 ∧ τ2.1 5 = τ.1 5 := by
  intro o
  induction o with
  | zero =>
    intro ts E q hi τ f h1 h2 h3 h4 h5 h6 h7 h8 h9 h10 h11 hf
    obtain ⟨f, rfl⟩ : ∃ k, f = k + 2 := ⟨f - 2, by omega⟩
    obtain ⟨E1, E2, q2, τ2, v, h, hi2, j, g1, g2, g3, g4, g5, g6, g7, g8, g9, g10, g11⟩ := pu_work (rl := 0) (A := A) hN1 (by omega) (show 28 ≤ 28 by omega) h1 hT48 (show q + 1 + ts.length = 48 * 28 + T by omega) h3 h5 h6 h7 h8 h9 h10
    have hz : q2 = 48 * 28 + T ∧ E2 = [] := by
      rcases g11 with z | ⟨ts2, z, -⟩
      · exact ⟨z.1, z.2.1⟩
      · omega
    obtain ⟨hq2, rfl⟩ := hz
    rw [List.append_nil] at g2
    subst g2
    have key : ∀ (g : Nat) (σ : St), σ.2 4 28 = nI T → σ.2 1 = τ.2 1 → J_Mod_add_120 N (g + 1) (nI fr) σ = J_Mod_add_159 N (fun l3 σ => J_Mod_add_120 N g l3 σ) 0 (1344 + nI T) (σ.1 10) (nI fr) σ := by
      intro g σ e1 e2
      rw [J_Mod_add_120, if_pos (by decide), show (28 : Int32).toNatClampNeg = 28 from rfl, e1]
      rcases h11 with z | ⟨z, w, w0, hw⟩
      · rw [z, if_neg (by decide), J_Mod_add_158]
      · rw [z, if_pos (show nI 1 = 1 from rfl), if_pos (by decide), show (1344 : Int32).toNatClampNeg = 1344 from rfl, hw σ e2, ax_bs, if_neg w0, J_Mod_add_158]
    have e4 : τ2.2 4 = τ.2 4 := g10.2 4 (by decide) (by decide) (by decide)
    have e1 : τ2.2 1 = τ.2 1 := g10.2 1 (by decide) (by decide) (by decide)
    have g1 : J_Mod_work N 28 (nI (q + 1)) 0 τ = some (v, τ2) := g1
    refine ⟨τ2, [h], hi2, ?_, g10, by rw [g6, g5, Nat.zero_add], g7, g8, g4, exV_sd _ _ _ (g3 [])⟩
    rw [key (f + 1) τ h1 rfl, J_Mod_add_159, pu_1344, Int32.sub_zero, h4, if_neg (nI_ge (by omega) (by omega)), nI_1, g1, ax_bs]
    show J_Mod_add_120 N (f + 1) (nI fr) τ2 = _
    rw [key f τ2 (by rw [e4]; exact h1) e1, J_Mod_add_159, pu_1344, Int32.sub_zero, g9, hq2, if_pos (nI_le (by omega) (by omega))]
    rfl
  | succ o ih =>
    intro ts E q hi τ f h1 h2 h3 h4 h5 h6 h7 h8 h9 h10 h11 hf
    obtain ⟨f, rfl⟩ : ∃ k, f = k + 1 := ⟨f - 1, by omega⟩
    obtain ⟨E1, E2, q2, τ2, v, h, hi2, j, g1, g2, g3, g4, g5, g6, g7, g8, g9, g10, g11⟩ := pu_work (rl := 0) (A := A) hN1 (by omega) (show 28 ≤ 28 by omega) h1 hT48 (show q + 1 + ts.length = 48 * 28 + T by omega) h3 h5 h6 h7 h8 h9 h10
    have e4 : τ2.2 4 = τ.2 4 := g10.2 4 (by decide) (by decide) (by decide)
    have e1 : τ2.2 1 = τ.2 1 := g10.2 1 (by decide) (by decide) (by decide)
    have g1 : J_Mod_work N 28 (nI (q + 1)) 0 τ = some (v, τ2) := g1
    rcases g11 with z | ⟨ts2, z1, z2, z3, z4, z5, z6⟩
    · omega
    obtain ⟨τ3, hs3, hi3, i1, i2, i3, i4, i5, i6, i7⟩ := ih ts2 E2 q2 hi2 τ2 f (by rw [e4]; exact h1) (by omega) (by omega) g9 (z3.m g10) z4 z5 (h8.m g10) g7 g8 (by
      rcases h11 with y | ⟨y, w, w0, hw⟩
      · exact Or.inl y
      · exact Or.inr ⟨y, w, w0, fun σ e => hw σ (e.trans e1)⟩) (by omega)
    refine ⟨τ3, hs3 ++ [h], hi3, ?_, g10.tr i2, ?_, i4, i5, ?_, i7.trans (exV_sd _ _ _ (g3 []))⟩
    · rw [← i1, J_Mod_add_120, if_pos (by decide), show (28 : Int32).toNatClampNeg = 28 from rfl, h1]
      have fin : ∀ t2 : Int32, t2 = τ.1 10 → J_Mod_add_159 N (fun l3 σ => J_Mod_add_120 N f l3 σ) 0 (1344 + nI T) t2 (nI fr) τ = J_Mod_add_120 N f (nI fr) τ2 := by
        intro t2 ht2
        rw [ht2, J_Mod_add_159, pu_1344, Int32.sub_zero, h4, if_neg (nI_ge (by omega) (by omega)), nI_1, g1, ax_bs]
      rcases h11 with y | ⟨y, w, w0, hw⟩
      · subst y
        rw [if_neg (show ¬ nI 2 = 1 by decide), J_Mod_add_158]
        exact fin _ rfl
      · subst y
        rw [if_pos (show nI 1 = 1 from rfl), if_pos (by decide), show (1344 : Int32).toNatClampNeg = 1344 from rfl, hw τ rfl, ax_bs, if_neg w0, J_Mod_add_158]
        exact fin _ rfl
    · rw [i3, g6, Int32.add_assoc, nI_add, g2, List.length_append, g5, Nat.zero_add]
    · intro hb
      rw [g2]
      refine exH_app _ _ _ _ _ (g4 hb) ?_
      show exH E2 ([] ++ ([h] ++ hb), hi2) = some ((hs3 ++ [h]) ++ hb, hi3)
      rw [List.append_assoc]
      exact i6 ([h] ++ hb)
/-- induction over a run -/
theorem run_ind (P : List (Nat × Int32) → Nat ⊕ List (Nat × Int32) → Prop)
    (hnil : ∀ ws o m, P [] (run [] ws o m))
    (hfail : ∀ t ts, P (t :: ts) (Sum.inl 0))
    (hj : ∀ k v ts ws o e ws2 o2 m2 R, allW ws → jn k ws o = some (e, ws2, o2, m2) → P ts R → P ((k, v) :: ts) (addE e 1 R))
    (hl : ∀ k v ts ws R, (k = 2 ∨ k = 3) → P ts R → P ((k, v) :: ts) (addE ((k, v) :: (unw 6 ws).1) 1 R))
    (hh : ∀ k v ts R, (k = 45 ∨ k = 33 ∨ k = 64 ∨ k = 40) → P ts R → P ((k, v) :: ts) (addE [] 1 R))
    (h1 : ∀ k v, 13 ≤ k ∧ k ≤ 20 → P [(k, v)] (Sum.inl 1))
    (h2 : ∀ k v t2 ts, 13 ≤ k ∧ k ≤ 20 → P ((k, v) :: t2 :: ts) (Sum.inl 1))
    (h3 : ∀ k v v2 ts R, 13 ≤ k ∧ k ≤ 20 → P ts R → P ((k, v) :: (40, v2) :: ts) (addE [] 2 R)) :
    ∀ (L : Nat) (ts : List (Nat × Int32)) (ws : List (Nat × Nat)) (o m : Nat), ts.length ≤ L → m ≤ 1 → allW ws → srt ws → P ts (run ts ws o m) := by
  intro L
  induction L with
  | zero =>
    intro ts ws o m hL _ _ _
    have h0 : ts = [] := List.length_eq_zero_iff.mp (by omega)
    subst h0
    exact hnil ws o m
  | succ L ih =>
    intro ts ws o m hL hm ha hs
    cases ts with
    | nil => exact hnil ws o m
    | cons t ts =>
    obtain ⟨k, v⟩ := t
    simp only [List.length_cons] at hL
    by_cases q : m = 0
    · subst q
      cases h : jn k ws o with
      | none => rw [run_j0 h]; exact hfail _ _
      | some r =>
        obtain ⟨e, ws2, o2, m2⟩ := r
        obtain ⟨c1, c2, -, -, c5, -⟩ := jn_inv ha hs h
        rw [run_j1 h]
        exact hj k v ts ws o e ws2 o2 m2 _ ha h (ih ts ws2 o2 m2 (by omega) c5 c1 c2)
    · obtain rfl : m = 1 := by omega
      by_cases p1 : k = 2 ∨ k = 3
      · rw [run_p1 p1]
        exact hl k v ts ws _ p1 (ih ts _ o 0 (by omega) (by omega) (unw_all 6 ws ha) (unw_srt 6 ws hs))
      by_cases p2 : k = 45
      · subst p2
        rw [run_p2]
        exact hh 45 v ts _ (Or.inl rfl) (ih ts _ o 1 (by omega) (by omega) ⟨okW_op (by decide), ha⟩ ⟨fun _ x => absurd x (by decide), hs⟩)
      by_cases p3 : k = 33 ∨ k = 64 ∨ k = 40
      · rw [run_p3 p3]
        refine hh k v ts _ (by omega) (ih ts _ o 1 (by omega) (by omega) ⟨?_, ha⟩ ⟨fun x y => ?_, hs⟩)
        · rcases p3 with z | z | z
          · exact okW_op (by rw [z]; decide)
          · exact okW_op (by rw [z]; decide)
          · exact Or.inr (Or.inl ⟨z, rfl⟩)
        · rcases p3 with z | z | z <;> rw [z] at x y <;> first | exact absurd y (by decide) | exact absurd x (by decide)
      by_cases p4 : 13 ≤ k ∧ k ≤ 20
      · cases ts with
        | nil => rw [run_p4 p4]; exact h1 k v p4
        | cons t2 ts2 =>
          obtain ⟨k2, v2⟩ := t2
          rw [run_p5 p4]
          simp only [List.length_cons] at hL
          by_cases y : k2 = 40
          · subst y
            rw [if_pos rfl]
            have hpt := pt_le k
            exact h3 k v v2 ts2 _ p4 (ih ts2 _ o 1 (by omega) (by omega) ⟨Or.inr (Or.inr ⟨p4.1, p4.2, by show pt k - 1 + 1 ≤ pt k; omega⟩), ha⟩ ⟨fun x _ => by have : 1 ≤ rk k := x; rw [rk_fn p4.1 p4.2] at this; omega, hs⟩)
          · rw [if_neg y]
            exact h2 k v _ _ p4
      · rw [run_p6 p1 p2 p3 p4]
        exact hfail _ _
/-- a run over a list that ends with what is no token fails before its end -/
theorem run_bad {ts : List (Nat × Int32)} {ws : List (Nat × Nat)} {o m : Nat} (hm : m ≤ 1) (ha : allW ws) (hs : srt ws) {ts0 : List (Nat × Int32)} {v : Int32} (h : ts = ts0 ++ [(1, v)]) : ∃ i, run ts ws o m = Sum.inl i ∧ i < ts.length := by
  have key := run_ind (fun ts R => ∀ (ts0 : List (Nat × Int32)) (v : Int32), ts = ts0 ++ [(1, v)] → ∃ i, R = Sum.inl i ∧ i < ts.length)
    (fun ws o m ts0 v h => absurd h (by simp))
    (fun t ts ts0 v h => ⟨0, rfl, by rw [List.length_cons]; omega⟩)
    (fun k v ts ws o e ws2 o2 m2 R _ h1 h2 ts0 v0 h => by
      cases ts0 with
      | nil =>
        simp only [List.nil_append, List.cons.injEq, Prod.mk.injEq] at h
        rw [h.1.1] at h1
        exact absurd h1 (by unfold jn; simp [show rk 1 = 0 by decide])
      | cons t0 ts0 =>
        simp only [List.cons_append, List.cons.injEq] at h
        obtain ⟨i, hi, hl⟩ := h2 ts0 v0 h.2
        exact ⟨i + 1, by rw [hi]; rfl, by rw [List.length_cons]; omega⟩)
    (fun k v ts ws R hk h2 ts0 v0 h => by
      cases ts0 with
      | nil =>
        simp only [List.nil_append, List.cons.injEq, Prod.mk.injEq] at h
        omega
      | cons t0 ts0 =>
        simp only [List.cons_append, List.cons.injEq] at h
        obtain ⟨i, hi, hl⟩ := h2 ts0 v0 h.2
        exact ⟨i + 1, by rw [hi]; rfl, by rw [List.length_cons]; omega⟩)
    (fun k v ts R hk h2 ts0 v0 h => by
      cases ts0 with
      | nil =>
        simp only [List.nil_append, List.cons.injEq, Prod.mk.injEq] at h
        omega
      | cons t0 ts0 =>
        simp only [List.cons_append, List.cons.injEq] at h
        obtain ⟨i, hi, hl⟩ := h2 ts0 v0 h.2
        exact ⟨i + 1, by rw [hi]; rfl, by rw [List.length_cons]; omega⟩)
    (fun k v hk ts0 v0 h => by
      cases ts0 with
      | nil =>
        simp only [List.nil_append, List.cons.injEq, Prod.mk.injEq] at h
        omega
      | cons t0 ts0 =>
        simp only [List.cons_append, List.cons.injEq] at h
        exact absurd h.2 (by simp))
    (fun k v t2 ts hk ts0 v0 h => ⟨1, rfl, by simp only [List.length_cons]; omega⟩)
    (fun k v v2 ts R hk h2 ts0 v0 h => by
      cases ts0 with
      | nil => exact absurd h (by simp)
      | cons t0 ts0 =>
      cases ts0 with
      | nil =>
        simp only [List.cons_append, List.nil_append, List.cons.injEq, Prod.mk.injEq] at h
        omega
      | cons t1 ts0 =>
        simp only [List.cons_append, List.cons.injEq] at h
        obtain ⟨i, hi, hl⟩ := h2 ts0 v0 h.2.2
        exact ⟨i + 2, by rw [hi]; rfl, by simp only [List.length_cons]; omega⟩)
  exact key ts.length ts ws o m (Nat.le_refl _) hm ha hs ts0 v h
theorem unw_k3 (r : Nat) (hr : 1 ≤ r) : ∀ ws n, n ∈ (unw r ws).1 → ¬ n.1 = 3 := by
  intro ws
  induction ws with
  | nil => intro n hn; exact absurd hn (by simp [unw])
  | cons w ws ih =>
    intro n hn
    unfold unw at hn
    split at hn
    · rename_i q
      rcases List.mem_cons.mp hn with z | z
      · rw [z]
        intro y
        have y : w.1 = 3 := y
        rw [y] at q
        have : rk 3 = 0 := by decide
        omega
      · exact ih n z
    · exact absurd hn (by simp)
/-- the names of a run's nodes are names of its tokens -/
theorem run_nm {ts : List (Nat × Int32)} {ws : List (Nat × Nat)} {o m b : Nat} {E : List (Nat × Int32)} (hm : m ≤ 1) (ha : allW ws) (hs : srt ws) (hn : ∀ t, t ∈ ts → t.1 = 3 → ∃ id : Nat, id < b ∧ t.2 = nI id) (h : run ts ws o m = Sum.inr E) : ∀ n, n ∈ E → n.1 = 3 → ∃ id : Nat, id < b ∧ n.2 = nI id := by
  have jk : ∀ k ws o e ws2 o2 m2, allW ws → jn k ws o = some (e, ws2, o2, m2) → ∀ n, n ∈ e → ¬ n.1 = 3 := by
    intro k ws o e ws2 o2 m2 hw h n hn
    unfold jn at h
    split at h
    · split at h
      · exact absurd h (by simp)
      · rename_i w ws3 hq
        have ua := unw_all 1 ws hw
        have ut := unw_top hq
        rw [hq] at ua
        split at h
        · split at h
          · simp only [Option.some.injEq, Prod.mk.injEq] at h
            rw [← h.1] at hn
            rcases List.mem_append.mp hn with z | z
            · exact unw_k3 1 (by omega) _ n z
            · exact unw_k3 6 (by omega) _ n z
          · simp only [Option.some.injEq, Prod.mk.injEq] at h
            rw [← h.1] at hn
            rcases List.mem_append.mp hn with z | z
            · exact unw_k3 1 (by omega) _ n z
            · rcases List.mem_cons.mp z with z | z
              · rw [z]
                intro y
                have y : w.1 = 3 := y
                rcases ua.1 with x | x | x <;> omega
              · exact unw_k3 6 (by omega) _ n z
        · exact absurd h (by simp)
    · split at h
      · split at h
        · split at h
          · exact absurd h (by simp)
          · simp only [Option.some.injEq, Prod.mk.injEq] at h
            rw [← h.1] at hn
            exact unw_k3 1 (by omega) _ n hn
        · split at h
          · exact absurd h (by simp)
          · simp only [Option.some.injEq, Prod.mk.injEq] at h
            rw [← h.1] at hn
            exact unw_k3 1 (by omega) _ n hn
      · split at h
        · exact absurd h (by simp)
        · rename_i hr
          split at h
          · split at h
            · exact absurd h (by simp)
            · simp only [Option.some.injEq, Prod.mk.injEq] at h
              rw [← h.1] at hn
              exact unw_k3 4 (by omega) _ n hn
          · simp only [Option.some.injEq, Prod.mk.injEq] at h
            rw [← h.1] at hn
            exact unw_k3 _ (by omega) _ n hn
  have key := run_ind (fun ts R => (∀ t, t ∈ ts → t.1 = 3 → ∃ id : Nat, id < b ∧ t.2 = nI id) → ∀ E, R = Sum.inr E → ∀ n, n ∈ E → n.1 = 3 → ∃ id : Nat, id < b ∧ n.2 = nI id)
    (fun ws o m _ E h n hn h3 => by
      rw [run_nil] at h
      split at h
      · simp only [Sum.inr.injEq] at h
        rw [← h] at hn
        exact absurd h3 (unw_k3 1 (by omega) _ n hn)
      · exact absurd h (by simp))
    (fun t ts _ E h => absurd h (by simp))
    (fun k v ts ws o e ws2 o2 m2 R hw h1 h2 hn E h n hE h3 => by
      obtain ⟨E2, r1, r2⟩ := addE_inr h
      rw [r2] at hE
      rcases List.mem_append.mp hE with z | z
      · exact absurd h3 (jk k ws o e ws2 o2 m2 hw h1 n z)
      · exact h2 (fun t ht => hn t (List.mem_cons_of_mem _ ht)) E2 r1 n z h3)
    (fun k v ts ws R hk h2 hn E h n hE h3 => by
      obtain ⟨E2, r1, r2⟩ := addE_inr h
      rw [r2] at hE
      rcases List.mem_append.mp hE with z | z
      · rcases List.mem_cons.mp z with z | z
        · rw [z] at h3 ⊢
          exact hn (k, v) (List.mem_cons_self ..) h3
        · exact absurd h3 (unw_k3 6 (by omega) _ n z)
      · exact h2 (fun t ht => hn t (List.mem_cons_of_mem _ ht)) E2 r1 n z h3)
    (fun k v ts R hk h2 hn E h n hE h3 => by
      obtain ⟨E2, r1, r2⟩ := addE_inr h
      rw [r2] at hE
      exact h2 (fun t ht => hn t (List.mem_cons_of_mem _ ht)) E2 r1 n hE h3)
    (fun k v hk _ E h => absurd h (by simp))
    (fun k v t2 ts hk _ E h => absurd h (by simp))
    (fun k v v2 ts R hk h2 hn E h n hE h3 => by
      obtain ⟨E2, r1, r2⟩ := addE_inr h
      rw [r2] at hE
      exact h2 (fun t ht => hn t (List.mem_cons_of_mem _ (List.mem_cons_of_mem _ ht))) E2 r1 n hE h3)
  exact key ts.length ts ws o m (Nat.le_refl _) hm ha hs hn E h
