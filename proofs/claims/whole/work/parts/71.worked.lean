/-! PURE ROWS 22: the reference's working out goes as the yard. -/
theorem mst.f {τ : St} {ws : List (Nat × Nat)} {s : List Int32} {hs : List Nat} {hi : Nat} (h : mst τ ws s hs hi) {k : Nat} {v : Int32} (h8 : k ≠ 8) (h9 : k ≠ 9) (h12 : k ≠ 12) : mst (sF τ k v) ws s hs hi := ⟨(if_neg (Ne.symm h9)).trans h.1, h.2.1, (if_neg (Ne.symm h8)).trans h.2.2.1, h.2.2.2.1, h.2.2.2.2.1, h.2.2.2.2.2.1, (if_neg (Ne.symm h12)).trans h.2.2.2.2.2.2⟩
/-- something is put on the stack of operators -/
theorem pu_push {τ : St} {ws : List (Nat × Nat)} {s : List Int32} {hs : List Nat} {hi k d : Nat} (hm : mst τ ws s hs hi) : mst (sF (sA τ 14 ws.length (nI (cMn k))) 9 (nI (ws.length + 1))) ((k, d) :: ws) s hs hi ∧ mFr τ (sF (sA τ 14 ws.length (nI (cMn k))) 9 (nI (ws.length + 1))) := by
  obtain ⟨m1, m2, m3, m4, m5, m6, m7⟩ := hm
  refine ⟨⟨rfl, ?_, m3, ?_, m5, ?_, m7⟩, fun j _ _ j3 _ _ _ => if_neg j3, fun j _ _ j3 => sA_ne _ _ _ j3⟩
  · show sIs _ ((sA τ 14 ws.length (nI (cMn k))).2 14) _
    rw [sA_self]
    exact sIs.push (c := fun w : Nat × Nat => nI (cMn w.1)) m2 (k, d)
  · show sIs _ ((sA τ 14 ws.length (nI (cMn k))).2 12) _
    rw [sA_ne _ _ _ (by decide)]
    exact m4
  · show sIs _ ((sA τ 14 ws.length (nI (cMn k))).2 13) _
    rw [sA_ne _ _ _ (by decide)]
    exact m6
theorem envIs.m {τ τ2 : St} {A : Nat → Nat → Int32} (h : envIs τ A) (hf : mFr τ τ2) : envIs τ2 A := ⟨(hf.2 7 (by decide) (by decide) (by decide)).trans h.1, (hf.2 9 (by decide) (by decide) (by decide)).trans h.2.1, (hf.2 10 (by decide) (by decide) (by decide)).trans h.2.2.1, (hf.2 11 (by decide) (by decide) (by decide)).trans h.2.2.2⟩
theorem tkM.m {τ τ2 : St} {i : Nat} {ts : List (Nat × Int32)} (h : tkM τ i ts) (hf : mFr τ τ2) : tkM τ2 i ts := tkM.cg (hf.2 1 (by decide) (by decide) (by decide)) (hf.2 2 (by decide) (by decide) (by decide)) h
/-- the end of a working out -/
theorem pu_399 {N rl en o p : Nat} {A : Nat → Nat → Int32} {τ : St} {ws : List (Nat × Nat)} {s : List Int32} {hs : List Nat} {hi : Nat} {E2 : List (Nat × Int32)} (hN1 : 300 ≤ N) (hA : envIs τ A) (hm : mst τ ws s hs hi) (hl : s.length = dW ws + 1) (h58 : s.length + ws.length ≤ 55) (ha : allW ws) (hsr : srt ws) (htr : tr ws ≤ 5) (hb : bd hs hi ws.length) (hU : (unw 1 ws).2 = [])
    (hend : (p = en ∧ E2 = [] ∧ o = 0) ∨ ∃ ts2 : List (Nat × Int32), 1 ≤ o ∧ p + 1 + ts2.length = en ∧ tkM τ (p + 1) ts2 ∧ nmO ts2 ∧ run ts2 [] (o - 1) 1 = Sum.inr E2 ∧ ts2.length ≤ 54) : wkR rl A τ en o s hs hi (np ws) (J_Mod_work_399 N (nI p) τ) ((unw 1 ws).1 ++ E2) := by
  obtain ⟨τ2, s2, hs2, hi2, g1, g2, g3, g4, g5, g6, g7, g8⟩ := pu_red (N := N) (r := 1) (n := 0) (by omega) (by omega) ws s hs hi τ N hA hm hl (by omega) ha hsr htr (by rw [Nat.zero_add]; exact hb) (by omega) (by omega)
  rw [hU] at g2 g3
  have hnp := unw_np (Nat.le_refl 1) ws
  rw [hU] at hnp
  have g3 : s2.length = 1 := g3
  obtain ⟨v, rfl⟩ : ∃ v, s2 = [v] := List.length_eq_one_iff.mp g3
  obtain ⟨h2, rfl⟩ : ∃ h, hs2 = [h] := List.length_eq_one_iff.mp (g2.2.2.2.2.1.trans g3)
  refine ⟨(unw 1 ws).1, E2, p, sF τ2 10 (nI p), v, h2, hi2, 0, ?_, rfl, ?_, g6, ?_, ?_, g2.2.2.2.2.2.2, g4.1, rfl, ?_, hend⟩
  · rw [J_Mod_work_399, J_Mod_reduce, show (1 : Int32) = nI 1 from rfl, g1, ax_bsV, ax_let, if_pos (by decide)]
    show some (τ2.2 12 0, _) = _
    rw [show τ2.2 12 0 = v from g2.2.2.2.1.1]
  · have e5 : (sF τ2 10 (nI p)).1 5 = τ.1 5 := g7.1 5 (by decide) (by decide) (by decide)
    rw [e5]
    exact g5 rl (τ.1 5)
  · have : np [] = 0 := rfl
    omega
  · show τ2.1 11 = τ.1 11 + nI 0
    rw [g7.1 11 (by decide) (by decide) (by decide), nI_0, Int32.add_zero]
  · exact g7.p.m.tr ⟨fun k _ _ _ k4 _ _ => if_neg k4, fun _ _ _ _ => rfl⟩
theorem unw_dW6 : ∀ ws, allW ws → dW (unw 6 ws).2 = dW ws := by
  intro ws
  induction ws with
  | nil => intro _; rfl
  | cons w ws ih =>
    intro h
    unfold unw
    split
    · rename_i q
      show dW (unw 6 ws).2 = dw w + dW ws
      have : dw w = 0 := by
        have := dw_op (k := w.1) (d := w.2) (by omega)
        rw [if_pos (by have := rk_le w.1; omega)] at this
        exact this
      rw [ih h.2, this, Nat.zero_add]
    · rfl
theorem cMn_push : ∀ k, k ≤ 64 → (k = 45 ∨ k = 33 ∨ k = 64) → (1000 : Int32) + nI (kM k) = nI (cMn (if k = 45 then 21 else k)) := by decide
set_option maxHeartbeats 2000000 in
theorem mw_loop {N rl en : Nat} {A : Nat → Nat → Int32} (hN1 : 300 ≤ N) (hrl : rl ≤ 1) (hen : en ≤ 1400) : ∀ (L : Nat) (ts : List (Nat × Int32)) (ws : List (Nat × Nat)) (o m p : Nat) (s : List Int32) (hs : List Nat) (hi : Nat) (E : List (Nat × Int32)) (τ : St) (f : Nat), ts.length ≤ L → tkM τ p ts → nmO ts → p + ts.length = en → run ts ws o m = Sum.inr E → m ≤ 1 → envIs τ A → mst τ ws s hs hi → s.length = dW ws + (1 - m) → allW ws → srt ws → (m = 0 → tr ws ≤ 5) → s.length + ws.length + ts.length ≤ 55 → bd hs hi (ts.length + ws.length) → ts.length < f →
    wkR rl A τ en o s hs hi (np ws) (J_Mod_work_32 N f (nI rl) (nI en) (nI (nb ws)) (nI m) (nI p) τ) E := by
  intro L
  induction L with
  | zero =>
    intro ts ws o m p s hs hi E τ f hL ht hno hp hrun hm hA hst hsl ha hsr htr hbn hbd hf
    obtain ⟨f, rfl⟩ : ∃ k, f = k + 1 := ⟨f - 1, by omega⟩
    have h0 : ts = [] := List.length_eq_zero_iff.mp (by omega)
    subst h0
    have hpe : p = en := hp
    rw [run_nil] at hrun
    by_cases q : m = 0 ∧ o = 0 ∧ (unw 1 ws).2 = []
    · rw [if_pos q] at hrun
      have hE : (unw 1 ws).1 = E := by injection hrun
      rw [J_Mod_work_32, if_pos (nI_le (by omega) (by omega))]
      have := pu_399 (N := N) (rl := rl) (en := en) (o := o) (p := p) (E2 := []) hN1 hA hst (by omega) (by simp only [List.length_nil] at hbn; omega) ha hsr (htr q.1) (by simpa using hbd) q.2.2 (Or.inl ⟨hpe, rfl, q.2.1⟩)
      rw [List.append_nil, hE] at this
      exact this
    · rw [if_neg q] at hrun
      exact absurd hrun (by simp)
  | succ L ih =>
    intro ts ws o m p s hs hi E τ f hL ht hno hp hrun hm hA hst hsl ha hsr htr hbn hbd hf
    by_cases hlen : ts.length ≤ L
    · exact ih ts ws o m p s hs hi E τ f hlen ht hno hp hrun hm hA hst hsl ha hsr htr hbn hbd hf
    cases ts with
    | nil => exact absurd (Nat.zero_le L) hlen
    | cons t ts =>
    obtain ⟨f, rfl⟩ : ∃ k, f = k + 1 := ⟨f - 1, by omega⟩
    obtain ⟨k, v⟩ := t
    obtain ⟨t1, t2, t3, t4⟩ := ht
    have t1 : okk k = true := t1
    have t2 : τ.2 1 p = nI (kM k) := t2
    have t3 : k = 2 ∨ k = 3 → τ.2 2 p = v := t3
    have t4 : tkM τ (p + 1) ts := t4
    simp only [List.length_cons] at hL hp hbn hbd hf hlen
    have hk := okk_lt t1
    obtain ⟨a1, a2⟩ := kM_f1 k hk t1
    obtain ⟨a3, a4, a5, a6⟩ := kM_f2a k hk t1
    obtain ⟨a7, a8, a9, a10⟩ := kM_f2b k hk t1
    obtain ⟨-, -, -, a14, a15⟩ := kM_f3 k hk t1
    have a16 := kM_fn k hk t1
    have hrk := rk_le k
    have hnb := nb_le ws
    have hib : inB (nI p) 1400 = true := pu_inB (by omega) (by decide)
    have hkM : kM k < 200 := by
      unfold kM
      repeat' split
      all_goals omega
    have h56 : ¬ (nb ws = 0 ∧ k = 44) → J_Mod_work_32 N (f + 1) (nI rl) (nI en) (nI (nb ws)) (nI m) (nI p) τ = J_Mod_work_56 N (fun l3 l4 l5 l6 l7 σ => J_Mod_work_32 N f l3 l4 l5 l6 l7 σ) (nI rl) (nI en) (nI (nb ws)) (nI m) (nI p) τ := by
      intro z
      rw [J_Mod_work_32, if_neg (nI_ge (by omega) (by omega))]
      by_cases y : nb ws = 0
      · rw [y, if_neg (show ¬ 0 < nI 0 by decide), if_pos hib, nI_clamp (by omega), t2, if_neg (fun x => z ⟨y, a4.mp x⟩)]
      · rw [if_pos (show 0 < nI (nb ws) from nI_lt (a := 0) (by omega) (by omega))]
    generalize hK : (fun l3 l4 l5 l6 l7 σ => J_Mod_work_32 N f l3 l4 l5 l6 l7 σ) = K at h56
    have hKa : ∀ l3 l4 l5 l6 l7 σ, K l3 l4 l5 l6 l7 σ = J_Mod_work_32 N f l3 l4 l5 l6 l7 σ := fun _ _ _ _ _ _ => by rw [← hK]
    by_cases q : m = 0
    · -- joining
      subst q
      have htr := htr rfl
      have hlu := unw_len 1 ws
      have hsl : s.length = dW ws + 1 := by omega
      -- 283 is reached
      have h283 : ¬ (nb ws = 0 ∧ k = 44) → ¬ k = 40 → ¬ (13 ≤ k ∧ k ≤ 20) → ¬ k = 2 → ¬ k = 3 → J_Mod_work_32 N (f + 1) (nI rl) (nI en) (nI (nb ws)) (nI 0) (nI p) τ = J_Mod_work_283 N K (nI rl) (nI en) (nI (nb ws)) (nI p) (nI (kM k)) τ := by
        intro z1 z2 z3 z4 z5
        rw [h56 z1, J_Mod_work_56, if_pos hib, nI_clamp (by omega), t2, ax_let, if_neg (fun x => z4 (a9.mp x)), if_neg (fun x => z5 (a10.mp x)), if_pos (show nI 0 = 0 from rfl), J_Mod_work_198, if_neg (fun x => z2 (a8.mp x))]
        rcases a16.mpr z3 with y | y
        · rw [if_pos (a14.mpr y)]
        · rw [if_neg (fun x => by have := a14.mp x; omega), if_pos (a15.mpr y)]
      cases hj : jn k ws o with
      | none => rw [run_j0 hj] at hrun; exact absurd hrun (by simp)
      | some jr =>
      obtain ⟨e, ws2, o2, m2⟩ := jr
      rw [run_j1 hj] at hrun
      obtain ⟨E2, hr2, rfl⟩ := addE_inr hrun
      obtain ⟨c1, c2, c3, c4, c5, c6⟩ := jn_inv ha hsr hj
      by_cases q1 : k = 41
      · -- a closing bracket
        unfold jn at hj
        rw [if_pos q1] at hj
        cases hU : (unw 1 ws).2 with
        | nil => rw [hU] at hj; exact absurd hj (by simp)
        | cons w ws3 =>
        rw [hU] at hj
        simp only [] at hj
        obtain ⟨τ1, s1, hs1, hi1, g1, g2, g3, g4, g5, g6, g7, g8⟩ := pu_red (N := N) (r := 1) (n := ts.length + 1) (by omega) (by omega) ws s hs hi τ N hA hst hsl (by omega) ha hsr htr hbd (by omega) (by omega)
        have hw0 := unw_top hU
        have ua := unw_all 1 ws ha
        have us := unw_srt 1 ws hsr
        have hnp := unw_np (Nat.le_refl 1) ws
        have hnbw := unw_nb (Nat.le_refl 1) ws
        rw [hU] at g2 g3 g4 g8 ua us hnp hnbw hlu
        simp only [List.length_cons] at g4 g8 hlu
        have hnb1 : nb ws = nb ws3 + 1 := by rw [← hnbw, nb, if_pos hw0]; omega
        have hm2 : mst (sF τ1 9 (nI ws3.length)) ws3 s1 hs1 hi1 := ⟨rfl, g2.2.1.2, g2.2.2⟩
        have fA : mFr τ (sF τ1 9 (nI ws3.length)) := g7.p.m.tr ⟨fun k _ _ k3 _ _ _ => if_neg k3, fun _ _ _ _ => rfl⟩
        have hA2 := hA.m fA
        have h14 : (sF τ1 9 (nI ws3.length)).2 14 ws3.length = nI (cMn w.1) := g2.2.1.1
        have g1 : J_Mod_reduce N 1 τ = some τ1 := g1
        have st : J_Mod_work_32 N (f + 1) (nI rl) (nI en) (nI (nb ws)) (nI 0) (nI p) τ = ax_bindV (J_Mod_close N (nI (cMn w.1) - 500) (nI rl) (sF τ1 9 (nI ws3.length))) (fun σ19 => J_Mod_work_32 N f (nI rl) (nI en) (nI (nb ws3)) (nI 0) (nI (p + 1)) σ19) := by
          rw [h283 (by omega) (by omega) (by omega) (by omega) (by omega), J_Mod_work_283, if_pos (a3.mpr q1), g1, ax_bsV, show τ1.1 9 = nI (ws3.length + 1) from g2.1, nI_pred, ax_let, hnb1, pk_m1, ax_let, show (sF τ1 9 (nI ws3.length)).1 9 = nI ws3.length from rfl, if_pos (pu_inB (by omega) (by decide)), nI_clamp (by omega), h14]
          simp only [ax_let, hKa, nI_1]
          rfl
        by_cases z : w.2 = 0
        · rw [if_pos z] at hj
          have hwe : w = (w.1, 0) := by rw [← z]
          have hdb := dw_br (d := 0) hw0
          rw [← hwe] at hdb
          have g3 : s1.length = dw w + dW ws3 + 1 := g3
          have n6 := unw_np (show 1 ≤ 6 by omega) ws3
          have l6 := unw_len 6 ws3
          have hnp : (unw 1 ws).1.length + ((if w.1 = 40 then 0 else 1) + np ws3) = np ws := hnp
          rw [st]
          by_cases y : w.1 = 40
          · rw [if_pos y] at hj hnp hdb
            simp only [Option.some.injEq, Prod.mk.injEq] at hj
            obtain ⟨rfl, rfl, rfl, rfl⟩ := hj
            cases s1 with
            | nil => simp only [List.length_nil] at g3; omega
            | cons x s1 =>
            cases hs1 with
            | nil => have := g2.2.2.2.2.1; simp only [List.length_nil, List.length_cons] at this; omega
            | cons h hs1 =>
            simp only [List.length_cons] at g3 g8
            obtain ⟨τ3, s3, hs3, hi3, j1, j2, j3, j4, j5, j6, j7⟩ := pu_close0 (N := N) (n := ts.length) (l2 := nI rl) (by omega) hA2 hm2 (by omega) ua.2 (g4.mono (by omega))
            have fB : mFr τ τ3 := fA.tr j7.p.m
            rw [show nI (cMn w.1) - 500 = 0 by rw [y]; decide, j1, ax_bsV, ← unw_nb (show 1 ≤ 6 by omega) ws3]
            refine wkR.step (s1 := s3) (hs1 := hs3) (hi1 := hi3) (n1 := np (unw 6 ws3).2) (a := 0) (τ1 := τ3) ?_ (g6.tr j6) ?_ ?_ fB (ih ts (unw 6 ws3).2 o 0 (p + 1) s3 hs3 hi3 E2 τ3 f (by omega) (t4.m fB) hno.2 (by omega) hr2 (by omega) (hA.m fB) j2 ?_ c1 c2 c3 ?_ j4 (by omega))
            · have e5 : τ3.1 5 = τ.1 5 := (j7.1 5 (by decide) (by decide) (by decide)).trans (g7.1 5 (by decide) (by decide) (by decide))
              rw [e5]
              exact (g5 rl (τ.1 5)).tr (j5 rl (τ.1 5))
            · rw [List.length_append]
              omega
            · have e11 : τ3.1 11 = τ.1 11 := (j7.1 11 (by decide) (by decide) (by decide)).trans (g7.1 11 (by decide) (by decide) (by decide))
              rw [e11, nI_0, Int32.add_zero]
            · rw [unw_dW6 ws3 ua.2]
              omega
            · omega
          · rw [if_neg y] at hj hnp hdb
            simp only [Option.some.injEq, Prod.mk.injEq] at hj
            obtain ⟨rfl, rfl, rfl, rfl⟩ := hj
            have hfn : 13 ≤ w.1 ∧ w.1 ≤ 20 := by
              rcases ua.1 with x | x | x
              · omega
              · omega
              · omega
            obtain ⟨e1, e2, e3, -⟩ := kM_f4 w.1 hfn.2 hfn.1
            have hpt := pt_le w.1
            obtain ⟨τ3, s3, hs3, hi3, j1, j2, j3, j4, j5, j6, j7⟩ := pu_closeF (N := N) (n := ts.length + 1) (k := w.1) (rl := rl) (r := dW ws3) (by omega) hrl hfn.1 hfn.2 hA2 hm2 (by omega) (by omega) ua.2 (g4.mono (by omega))
            have fB : mFr τ τ3 := fA.tr j7.m
            rw [show nI (cMn w.1) - 500 = nI (kM w.1) by rw [e3, e2, show (500 : Int32) = nI 500 from rfl, pk_sub (by omega)]; exact congrArg nI (by omega), j1, ax_bsV, ← unw_nb (show 1 ≤ 6 by omega) ws3]
            refine wkR.step (s1 := s3) (hs1 := hs3) (hi1 := hi3) (n1 := np (unw 6 ws3).2) (a := 0) (τ1 := τ3) ?_ (g6.tr j6) ?_ ?_ fB (ih ts (unw 6 ws3).2 o 0 (p + 1) s3 hs3 hi3 E2 τ3 f (by omega) (t4.m fB) hno.2 (by omega) hr2 (by omega) (hA.m fB) j2 ?_ c1 c2 c3 ?_ (j4.mono (by omega)) (by omega))
            · have e5 : (sF τ1 9 (nI ws3.length)).1 5 = τ.1 5 := g7.1 5 (by decide) (by decide) (by decide)
              rw [e5] at j5
              exact (g5 rl (τ.1 5)).tr j5
            · rw [List.length_append, List.length_cons]
              omega
            · have e11 : τ3.1 11 = τ.1 11 := (j7.1 11 (by decide) (by decide) (by decide) (by decide)).trans (g7.1 11 (by decide) (by decide) (by decide))
              rw [e11, nI_0, Int32.add_zero]
            · rw [unw_dW6 ws3 ua.2]
              omega
            · omega
        · rw [if_neg z] at hj
          exact absurd hj (by simp)
      by_cases q2 : k = 44
      · -- a comma
        unfold jn at hj
        rw [if_neg q1, if_pos q2] at hj
        have hnbw := unw_nb (Nat.le_refl 1) ws
        cases hU : (unw 1 ws).2 with
        | nil =>
          rw [hU] at hj hnbw
          simp only [] at hj
          have hnb0 : nb ws = 0 := hnbw.symm
          by_cases z : o = 0
          · rw [if_pos z] at hj
            exact absurd hj (by simp)
          rw [if_neg z] at hj
          simp only [Option.some.injEq, Prod.mk.injEq] at hj
          obtain ⟨rfl, rfl, rfl, rfl⟩ := hj
          rw [J_Mod_work_32, if_neg (nI_ge (by omega) (by omega)), hnb0, if_neg (show ¬ 0 < nI 0 by decide), if_pos hib, nI_clamp (by omega), t2, if_pos (a4.mpr q2)]
          exact pu_399 (by omega) hA hst hsl (by omega) ha hsr htr (hbd.mono (by omega)) hU (Or.inr ⟨ts, by omega, by omega, t4, hno.2, hr2, by omega⟩)
        | cons w ws3 =>
        rw [hU] at hj
        simp only [] at hj
        obtain ⟨τ1, s1, hs1, hi1, g1, g2, g3, g4, g5, g6, g7, g8⟩ := pu_red (N := N) (r := 1) (n := ts.length + 1) (by omega) (by omega) ws s hs hi τ N hA hst hsl (by omega) ha hsr htr hbd (by omega) (by omega)
        have g1 : J_Mod_reduce N 1 τ = some τ1 := g1
        have hw0 := unw_top hU
        have ua := unw_all 1 ws ha
        have hnp := unw_np (Nat.le_refl 1) ws
        rw [hU] at g2 g3 g4 g8 ua hnp hnbw hlu
        simp only [List.length_cons] at g4 g8 hlu
        have hnb1 : nb ws = nb ws3 + 1 := by rw [← hnbw, nb, if_pos hw0]; omega
        by_cases z : w.2 = 0
        · rw [if_pos z] at hj
          exact absurd hj (by simp)
        rw [if_neg z] at hj
        simp only [Option.some.injEq, Prod.mk.injEq] at hj
        obtain ⟨rfl, rfl, rfl, rfl⟩ := hj
        have hfn : 13 ≤ w.1 ∧ w.1 ≤ 20 ∧ w.2 + 1 ≤ pt w.1 := by
          rcases ua.1 with x | x | x
          · omega
          · omega
          · exact x
        have d1 : dw w = pt w.1 - 1 - w.2 := by
          have := dw_br (d := w.2) hw0
          rw [if_neg (by omega)] at this
          exact this
        have d2 : dw (w.1, w.2 - 1) = pt w.1 - 1 - (w.2 - 1) := by
          have := dw_br (d := w.2 - 1) hw0
          rw [if_neg (by omega)] at this
          exact this
        have g3 : s1.length = dw w + dW ws3 + 1 := g3
        have hm3 : mst τ1 ((w.1, w.2 - 1) :: ws3) s1 hs1 hi1 := ⟨g2.1, ⟨g2.2.1.1, g2.2.1.2⟩, g2.2.2⟩
        have hnb2 : nb ((w.1, w.2 - 1) :: ws3) = nb ws := by rw [hnb1, nb, if_pos hw0]; omega
        have hnp2 : np ((w.1, w.2 - 1) :: ws3) = np (w :: ws3) := rfl
        have st : J_Mod_work_32 N (f + 1) (nI rl) (nI en) (nI (nb ws)) (nI 0) (nI p) τ = J_Mod_work_32 N f (nI rl) (nI en) (nI (nb ws)) (nI 1) (nI (p + 1)) τ1 := by
          rw [h283 (by omega) (by omega) (by omega) (by omega) (by omega), J_Mod_work_283, if_neg (fun x => q1 (a3.mp x)), if_pos (a4.mpr q2), g1, ax_bsV, ax_let, nI_1, hKa]
          rfl
        rw [st, ← hnb2]
        refine wkR.step (s1 := s1) (hs1 := hs1) (hi1 := hi1) (n1 := np ((w.1, w.2 - 1) :: ws3)) (a := 0) (τ1 := τ1) ?_ g6 (by omega) ?_ g7.p.m (ih ts ((w.1, w.2 - 1) :: ws3) o 1 (p + 1) s1 hs1 hi1 E2 τ1 f (by omega) (t4.m g7.p.m) hno.2 (by omega) hr2 (by omega) (hA.m g7.p.m) hm3 ?_ c1 c2 (fun x => by omega) (by rw [List.length_cons]; omega) (g4.mono (by rw [List.length_cons]; omega)) (by omega))
        · rw [g7.1 5 (by decide) (by decide) (by decide)]
          exact g5 rl (τ.1 5)
        · rw [g7.1 11 (by decide) (by decide) (by decide), nI_0, Int32.add_zero]
        · show s1.length = dw (w.1, w.2 - 1) + dW ws3 + (1 - 1)
          omega
      -- an operator
      have hop : ¬ (rk k = 0 ∨ rk k = 6) ∧ e = (unw (rk k) ws).1 ∧ ws2 = (k, 0) :: (unw (rk k) ws).2 ∧ o2 = o ∧ m2 = 1 := by
        unfold jn at hj
        rw [if_neg q1, if_neg q2] at hj
        by_cases y : rk k = 0 ∨ rk k = 6
        · rw [if_pos y] at hj
          exact absurd hj (by simp)
        rw [if_neg y] at hj
        refine ⟨y, ?_⟩
        by_cases y2 : rk k = 3
        · rw [if_pos y2] at hj
          by_cases y3 : tr (unw 4 ws).2 = 3
          · rw [if_pos y3] at hj
            exact absurd hj (by simp)
          rw [if_neg y3] at hj
          simp only [Option.some.injEq, Prod.mk.injEq] at hj
          rw [y2, unw_43 y3]
          exact ⟨hj.1.symm, hj.2.1.symm, hj.2.2.1.symm, hj.2.2.2.symm⟩
        · rw [if_neg y2] at hj
          simp only [Option.some.injEq, Prod.mk.injEq] at hj
          exact ⟨hj.1.symm, hj.2.1.symm, hj.2.2.1.symm, hj.2.2.2.symm⟩
      obtain ⟨q3, rfl, rfl, rfl, rfl⟩ := hop
      have hkk : kM k = k ∧ cMn k = k ∧ ¬ k = 2 ∧ ¬ k = 3 ∧ ¬ k = 40 ∧ ¬ (13 ≤ k ∧ k ≤ 20) := by
        obtain ⟨x1, x2, x3⟩ := not_leaf (k := k) (by omega)
        have x4 : ¬ k = 40 := fun x => by rw [x, rk_40] at q3; omega
        have x5 : ¬ k = 1 := fun x => by rw [x] at q3; exact q3 (Or.inl (by decide))
        have x6 : ¬ (4 ≤ k ∧ k ≤ 12) := fun x => q3 (Or.inl (by
          have : ∀ k, k ≤ 12 → 4 ≤ k → rk k = 0 := by decide
          exact this k x.2 x.1))
        exact ⟨by unfold kM; rw [if_neg x5, if_neg x1, if_neg x2, if_neg x6, if_neg x3], (cMn_op (by omega) (by omega)).1, x1, x2, x4, x3⟩
      obtain ⟨k1, k2, k3, k4, k5, k6⟩ := hkk
      have fC : mFr τ (sF τ 11 (τ.1 11 + 1)) := ⟨fun j _ _ _ _ j5 _ => if_neg j5, fun _ _ _ _ => rfl⟩
      have hstC : mst (sF τ 11 (τ.1 11 + 1)) ws s hs hi := hst.f (by decide) (by decide) (by decide)
      obtain ⟨τ1, s1, hs1, hi1, g1, g2, g3, g4, g5, g6, g7, g8⟩ := pu_red (N := N) (r := rk k) (n := ts.length + 1) (by omega) (by omega) ws s hs hi (sF τ 11 (τ.1 11 + 1)) N (hA.m fC) hstC hsl (by omega) ha hsr htr hbd (by omega) (by omega)
      have g1 : J_Mod_reduce N (nI (rk k)) (sF τ 11 (τ.1 11 + 1)) = some τ1 := g1
      have hul := unw_len (rk k) ws
      obtain ⟨p1, p2⟩ := pu_push (k := k) (d := 0) g2
      have fB : mFr τ (sF (sA τ1 14 (unw (rk k) ws).2.length (nI (cMn k))) 9 (nI ((unw (rk k) ws).2.length + 1))) := (fC.tr g7.p.m).tr p2
      have hnbw := unw_nb (show 1 ≤ rk k by omega) ws
      have hnp := unw_np (show 1 ≤ rk k by omega) ws
      have hnb2 : nb ((k, 0) :: (unw (rk k) ws).2) = nb ws := by rw [nb, if_neg (show ¬ rk (k, 0).1 = 0 from fun x => q3 (Or.inl x))]; omega
      have hnp2 : np ((k, 0) :: (unw (rk k) ws).2) = 1 + np (unw (rk k) ws).2 := by rw [np, if_neg (show ¬ (k, 0).1 = 40 from k5)]
      have hd : dw (k, 0) = 1 := by rw [dw_op (by omega), if_neg (by omega)]
      have st : J_Mod_work_32 N (f + 1) (nI rl) (nI en) (nI (nb ws)) (nI 0) (nI p) τ = J_Mod_work_32 N f (nI rl) (nI en) (nI (nb ws)) (nI 1) (nI (p + 1)) (sF (sA τ1 14 (unw (rk k) ws).2.length (nI (cMn k))) 9 (nI ((unw (rk k) ws).2.length + 1))) := by
        rw [h283 (by omega) k5 k6 k3 k4, J_Mod_work_283, if_neg (fun x => q1 (a3.mp x)), if_neg (fun x => q2 (a4.mp x)), ax_let, pu_lev, ax_bs, a1, if_neg (show ¬ rk k = 6 by omega), g1, ax_bsV, g2.1, if_pos (pu_inB (by omega) (by decide)), nI_clamp (by omega), k1, ax_let, ax_let, show (sA τ1 14 (unw (rk k) ws).2.length (nI k)).1 9 = nI (unw (rk k) ws).2.length from g2.1, nI_1, ax_let, nI_1, hKa, k2]
        rfl
      rw [st, ← hnb2]
      refine wkR.step (s1 := s1) (hs1 := hs1) (hi1 := hi1) (n1 := np ((k, 0) :: (unw (rk k) ws).2)) (a := 1) ?_ g6 (by omega) ?_ fB (ih ts ((k, 0) :: (unw (rk k) ws).2) o2 1 (p + 1) s1 hs1 hi1 E2 _ f (by omega) (t4.m fB) hno.2 (by omega) hr2 (by omega) (hA.m fB) p1 ?_ c1 c2 (fun x => by omega) (by rw [List.length_cons]; omega) (g4.mono (by rw [List.length_cons]; omega)) (by omega))
      · have e5 : (sF (sA τ1 14 (unw (rk k) ws).2.length (nI (cMn k))) 9 (nI ((unw (rk k) ws).2.length + 1))).1 5 = τ.1 5 := (g7.1 5 (by decide) (by decide) (by decide)).trans rfl
        rw [e5]
        exact g5 rl (τ.1 5)
      · show τ1.1 11 = _
        rw [g7.1 11 (by decide) (by decide) (by decide)]
        rfl
      · show s1.length = dw (k, 0) + dW (unw (rk k) ws).2 + (1 - 1)
        omega
    · -- a part
      obtain rfl : m = 1 := by omega
      have hsl : s.length = dW ws := by omega
      have n44 : ∀ c, k = c → c ≠ 44 → ¬ (nb ws = 0 ∧ k = 44) := fun c h1 h2 h3 => h2 (by rw [← h1, h3.2])
      have fC : mFr τ (sF τ 11 (τ.1 11 + 1)) := ⟨fun j _ _ _ _ j5 _ => if_neg j5, fun _ _ _ _ => rfl⟩
      have hstC : mst (sF τ 11 (τ.1 11 + 1)) ws s hs hi := hst.f (by decide) (by decide) (by decide)
      by_cases p1 : k = 2 ∨ k = 3
      · -- a number or a name
        rw [run_p1 p1] at hrun
        obtain ⟨E2, hr2, rfl⟩ := addE_inr hrun
        have hv : ∃ x, J_Mod_work_32 N (f + 1) (nI rl) (nI en) (nI (nb ws)) (nI 1) (nI p) τ = J_Mod_work_124 N K x (nI rl) (nI en) (nI (nb ws)) (nI p) (sF τ 11 (τ.1 11 + 1)) ∧ ∀ sb sd, vN rl A (k, v) (s ++ sb, sd) = some ((x :: s) ++ sb, sd) := by
          have e2 : (sF τ 11 (τ.1 11 + 1)).2 2 p = v := t3 p1
          rcases p1 with z | z
          · refine ⟨v, ?_, fun sb sd => ?_⟩
            · rw [h56 (by omega), J_Mod_work_56, if_pos hib, nI_clamp (by omega), t2, ax_let, if_pos (a9.mpr z), J_Mod_work_77, ax_let, if_pos (a9.mpr z), if_pos hib, nI_clamp (by omega), e2]
            · unfold vN
              rw [if_pos (show (k, v).1 = 2 from z)]
              rfl
          · have z2 : ¬ k = 2 := by omega
            by_cases y : rl = 0
            · refine ⟨0, ?_, fun sb sd => ?_⟩
              · rw [h56 (by omega), J_Mod_work_56, if_pos hib, nI_clamp (by omega), t2, ax_let, if_neg (fun x => z2 (a9.mp x)), if_pos (a10.mpr z), J_Mod_work_77, ax_let, if_neg (fun x => z2 (a9.mp x)), if_pos (show nI rl = 0 by rw [y]; rfl)]
              · unfold vN
                rw [if_neg (show ¬ (k, v).1 = 2 from z2), if_pos (show (k, v).1 = 3 from z), if_pos y]
                rfl
            · obtain ⟨id, hid, hv⟩ := hno.1 z
              have hv : v = nI id := hv
              refine ⟨A 7 id, ?_, fun sb sd => ?_⟩
              · rw [h56 (by omega), J_Mod_work_56, if_pos hib, nI_clamp (by omega), t2, ax_let, if_neg (fun x => z2 (a9.mp x)), if_pos (a10.mpr z), J_Mod_work_77, ax_let, if_neg (fun x => z2 (a9.mp x)), if_neg (show ¬ nI rl = 0 from nI_ne0 (by omega) (by omega)), if_pos hib, nI_clamp (by omega), e2, hv, if_pos (pu_inB hid (by decide)), nI_clamp (by omega), show (sF τ 11 (τ.1 11 + 1)).2 7 = A 7 from hA.1]
              · unfold vN
                rw [if_neg (show ¬ (k, v).1 = 2 from z2), if_pos (show (k, v).1 = 3 from z), if_neg y]
                show some (A 7 v.toNatClampNeg :: (s ++ sb), sd) = _
                rw [hv, nI_clamp (by omega)]
                rfl
        obtain ⟨x, st, hvN⟩ := hv
        obtain ⟨τ1, s1, hs1, hi1, g1, g2, g3, g4, g5, g6, g7⟩ := pu_put (N := N) (n := ts.length) (v := x) (h := 0) (by omega) (hA.m fC) hstC (by omega) ha (hbd.mono (by omega)) (by omega)
        have hul := unw_len 6 ws
        have hnp := unw_np (show 1 ≤ 6 by omega) ws
        have hnbw := unw_nb (show 1 ≤ 6 by omega) ws
        have utr := unw_tr 6 (by omega) ws
        have fB : mFr τ τ1 := fC.tr g7.p.m
        have e5 : τ1.1 5 = τ.1 5 := (g7.1 5 (by decide) (by decide) (by decide)).trans rfl
        have g1 : J_Mod_put N x 1 (sF τ 11 (τ.1 11 + 1)) = some τ1 := g1
        rw [st, J_Mod_work_124, g1, ax_bsV, ax_let, nI_1, hKa, ← hnbw]
        refine wkR.step (s1 := s1) (hs1 := hs1) (hi1 := hi1) (n1 := np (unw 6 ws).2) (a := 1) (τ1 := τ1) ?_ ?_ (by rw [List.length_cons]; omega) ?_ fB (ih ts (unw 6 ws).2 o 0 (p + 1) s1 hs1 hi1 E2 τ1 f (by omega) (t4.m fB) hno.2 (by omega) hr2 (by omega) (hA.m fB) g2 (by rw [unw_dW6 ws ha]; omega) (unw_all 6 ws ha) (unw_srt 6 ws hsr) (fun _ => by omega) (by omega) g4 (by omega))
        · rw [e5]
          exact xv.tr (X := [(k, v)]) (xv.one (fun sb => hvN sb (τ.1 5))) (g5 rl (τ.1 5))
        · refine xh.tr (X := [(k, v)]) (s2 := 0 :: hs) (d2 := max hi (0 + 1)) (xh.one (fun sb => ?_)) g6
          show hN k (hs ++ sb, hi) = some (0 :: (hs ++ sb), max hi 1)
          unfold hN
          rw [if_pos (show ar k = 0 by unfold ar; rw [if_pos p1])]
        · rw [g7.1 11 (by decide) (by decide) (by decide)]
          rfl
      have hn2 : ¬ nI (kM k) = 1 := fun x => p1 (Or.inl (a9.mp x))
      have hn3 : ¬ nI (kM k) = 2 := fun x => p1 (Or.inr (a10.mp x))
      by_cases p2 : k = 45 ∨ k = 33 ∨ k = 64
      · -- an operator in front
        have hpr : run ((k, v) :: ts) ws o 1 = addE [] 1 (run ts ((if k = 45 then 21 else k, 0) :: ws) o 1) := by
          rcases p2 with z | z
          · subst z
            exact run_p2
          · rw [if_neg (by omega)]
            exact run_p3 (by omega)
        rw [hpr] at hrun
        obtain ⟨E2, hr2, rfl⟩ := addE_inr hrun
        have hr6 : rk (if k = 45 then 21 else k) = 6 := by
          rcases p2 with z | z | z <;> rw [z] <;> decide
        have hcp := cMn_push k (by omega) p2
        generalize (if k = 45 then 21 else k) = kp at hr2 hr6 hcp
        obtain ⟨u1, u2⟩ := pu_push (k := kp) (d := 0) hstC
        have fB : mFr τ (sF (sA (sF τ 11 (τ.1 11 + 1)) 14 ws.length (nI (cMn kp))) 9 (nI (ws.length + 1))) := fC.tr u2
        have hnb2 : nb ((kp, 0) :: ws) = nb ws := by rw [nb, if_neg (show ¬ rk (kp, 0).1 = 0 by show ¬ rk kp = 0; omega)]; omega
        have h40 : ¬ kp = 40 := fun x => by rw [x, rk_40] at hr6; omega
        have hnp2 : np ((kp, 0) :: ws) = 1 + np ws := by rw [np, if_neg (show ¬ (kp, 0).1 = 40 from h40)]
        have hd : dw (kp, 0) = 0 := by rw [dw_op (by omega), if_pos hr6]
        have st : J_Mod_work_32 N (f + 1) (nI rl) (nI en) (nI (nb ws)) (nI 1) (nI p) τ = J_Mod_work_32 N f (nI rl) (nI en) (nI (nb ws)) (nI 1) (nI (p + 1)) (sF (sA (sF τ 11 (τ.1 11 + 1)) 14 ws.length (nI (cMn kp))) 9 (nI (ws.length + 1))) := by
          have s160 : J_Mod_work_32 N (f + 1) (nI rl) (nI en) (nI (nb ws)) (nI 1) (nI p) τ = J_Mod_work_160 N K (nI rl) (nI en) (nI (nb ws)) (nI 1) (nI p) (nI (kM k)) τ := by
            rw [h56 (by omega), J_Mod_work_56, if_pos hib, nI_clamp (by omega), t2, ax_let, if_neg hn2, if_neg hn3, if_neg (show ¬ nI 1 = 0 by decide)]
            by_cases z1 : k = 45
            · rw [if_pos (a5.mpr z1)]
            rw [if_neg (fun x => z1 (a5.mp x))]
            by_cases z2 : k = 33
            · rw [if_pos (a6.mpr z2)]
            rw [if_neg (fun x => z2 (a6.mp x)), if_pos (a7.mpr (by omega))]
          rw [s160, J_Mod_work_160, ax_let, show (sF τ 11 (τ.1 11 + 1)).1 9 = nI ws.length from hstC.1, if_pos (pu_inB (by omega) (by decide)), nI_clamp (by omega), hcp, ax_let, ax_let, show (sA (sF τ 11 (τ.1 11 + 1)) 14 ws.length (nI (cMn kp))).1 9 = nI ws.length from hstC.1, nI_1, ax_let, nI_1, hKa]
        rw [st, ← hnb2]
        refine wkR.step (e := []) (s1 := s) (hs1 := hs) (hi1 := hi) (n1 := np ((kp, 0) :: ws)) (a := 1) ?_ xh.nil (by simp only [List.length_nil]; omega) rfl fB (ih ts ((kp, 0) :: ws) o 1 (p + 1) s hs hi E _ f (by omega) (t4.m fB) hno.2 (by omega) hr2 (by omega) (hA.m fB) u1 ?_ ⟨okW_op (by omega), ha⟩ ⟨fun _ x => by have : rk kp ≤ 5 := x; omega, hsr⟩ (fun x => by omega) (by rw [List.length_cons]; omega) (hbd.mono (by rw [List.length_cons]; omega)) (by omega))
        · exact xv.nil
        · show s.length = dw (kp, 0) + dW ws + (1 - 1)
          omega
      have h198 : J_Mod_work_32 N (f + 1) (nI rl) (nI en) (nI (nb ws)) (nI 1) (nI p) τ = J_Mod_work_198 N K (nI rl) (nI en) (nI (nb ws)) (nI 1) (nI p) (nI (kM k)) τ ∨ k = 44 := by
        by_cases y : k = 44
        · exact Or.inr y
        · left
          rw [h56 (fun x => y x.2), J_Mod_work_56, if_pos hib, nI_clamp (by omega), t2, ax_let, if_neg hn2, if_neg hn3, if_neg (show ¬ nI 1 = 0 by decide), if_neg (fun x => p2 (Or.inl (a5.mp x))), if_neg (fun x => p2 (Or.inr (Or.inl (a6.mp x)))), if_neg (fun x => p2 (Or.inr (Or.inr (a7.mp x))))]
      by_cases p3 : k = 40
      · -- a bracket
        rw [run_p3 (by omega)] at hrun
        obtain ⟨E2, hr2, rfl⟩ := addE_inr hrun
        have h198 := h198.resolve_right (by omega)
        obtain ⟨u1, u2⟩ := pu_push (k := k) (d := 0) hst
        have hr0 : rk k = 0 := by rw [p3]; decide
        have hnb2 : nb ((k, 0) :: ws) = nb ws + 1 := by rw [nb, if_pos (show rk (k, 0).1 = 0 from hr0)]; omega
        have hnp2 : np ((k, 0) :: ws) = np ws := by rw [np, if_pos (show (k, 0).1 = 40 from p3)]; omega
        have hd : dw (k, 0) = 0 := by rw [dw_br hr0, if_pos p3]
        have hc : cMn k = 500 := by rw [p3]; decide
        have st : J_Mod_work_32 N (f + 1) (nI rl) (nI en) (nI (nb ws)) (nI 1) (nI p) τ = J_Mod_work_32 N f (nI rl) (nI en) (nI (nb ws + 1)) (nI 1) (nI (p + 1)) (sF (sA τ 14 ws.length (nI (cMn k))) 9 (nI (ws.length + 1))) := by
          rw [h198, J_Mod_work_198, if_pos (a8.mpr p3), J_Mod_work_219, if_pos (a8.mpr p3), J_Mod_work_239, if_pos (a8.mpr p3), hst.1, J_Mod_work_266, if_pos (pu_inB (by omega) (by decide)), nI_clamp (by omega), ax_let, ax_let, show (sA τ 14 ws.length 500).1 9 = nI ws.length from hst.1, nI_1, ax_let, ax_let, nI_1, nI_1, hKa, hc]
          rfl
        rw [st, ← hnb2]
        refine wkR.step (e := []) (s1 := s) (hs1 := hs) (hi1 := hi) (n1 := np ((k, 0) :: ws)) (a := 0) ?_ xh.nil (by simp only [List.length_nil]; omega) ?_ u2 (ih ts ((k, 0) :: ws) o 1 (p + 1) s hs hi E _ f (by omega) (t4.m u2) hno.2 (by omega) hr2 (by omega) (hA.m u2) u1 ?_ ⟨Or.inr (Or.inl ⟨p3, rfl⟩), ha⟩ ⟨fun x _ => by have : 1 ≤ rk k := x; omega, hsr⟩ (fun x => by omega) (by rw [List.length_cons]; omega) (hbd.mono (by rw [List.length_cons]; omega)) (by omega))
        · exact xv.nil
        · show τ.1 11 = _
          rw [nI_0, Int32.add_zero]
        · show s.length = dw (k, 0) + dW ws + (1 - 1)
          omega
      by_cases p4 : 13 ≤ k ∧ k ≤ 20
      · -- a built-in function
        have h198 := h198.resolve_right (by omega)
        cases ts with
        | nil => rw [run_p4 p4] at hrun; exact absurd hrun (by simp)
        | cons t5 ts2 =>
        obtain ⟨k2, v2⟩ := t5
        rw [run_p5 p4] at hrun
        by_cases y : k2 = 40
        · rw [if_pos y] at hrun
          obtain ⟨E2, hr2, rfl⟩ := addE_inr hrun
          simp only [List.length_cons] at hL hp hbn hbd hf hlen
          obtain ⟨e1, e2, e3, -⟩ := kM_f4 k p4.2 p4.1
          have hpt := pt_le k
          have hr0 := rk_fn p4.1 p4.2
          obtain ⟨u1, u2⟩ := pu_push (k := k) (d := pt k - 1) hstC
          have fB : mFr τ (sF (sA (sF τ 11 (τ.1 11 + 1)) 14 ws.length (nI (cMn k))) 9 (nI (ws.length + 1))) := fC.tr u2
          have hnb2 : nb ((k, pt k - 1) :: ws) = nb ws + 1 := by rw [nb, if_pos (show rk (k, pt k - 1).1 = 0 from hr0)]; omega
          have hnp2 : np ((k, pt k - 1) :: ws) = 1 + np ws := by rw [np, if_neg (show ¬ (k, pt k - 1).1 = 40 from p3)]
          have hd : dw (k, pt k - 1) = 0 := by rw [dw_br hr0, if_neg p3]; omega
          have hc : (500 : Int32) + nI (kM k) = nI (cMn k) := by rw [e2, e3, show (500 : Int32) = nI 500 from rfl, nI_add]; congr 1; omega
          have z8 : ¬ kM k < 20 ∧ ¬ 27 < kM k := by omega
          have st : J_Mod_work_32 N (f + 1) (nI rl) (nI en) (nI (nb ws)) (nI 1) (nI p) τ = J_Mod_work_32 N f (nI rl) (nI en) (nI (nb ws + 1)) (nI 1) (nI (p + 2)) (sF (sA (sF τ 11 (τ.1 11 + 1)) 14 ws.length (nI (cMn k))) 9 (nI (ws.length + 1))) := by
            have n40 : ¬ nI (kM k) = 40 := fun x => p3 (a8.mp x)
            rw [h198, J_Mod_work_198, if_neg n40, if_neg (fun x => z8.1 (a14.mp x)), if_neg (fun x => z8.2 (a15.mp x)), J_Mod_work_219, if_neg n40, ax_let, nI_1, ax_let, J_Mod_work_239, if_neg n40, hc, show (sF τ 11 (τ.1 11 + 1)).1 9 = nI ws.length from hst.1, J_Mod_work_266, if_pos (pu_inB (by omega) (by decide)), nI_clamp (by omega), ax_let, ax_let, show (sA (sF τ 11 (τ.1 11 + 1)) 14 ws.length (nI (cMn k))).1 9 = nI ws.length from hst.1, nI_1, ax_let, ax_let, nI_1, nI_1, hKa]
          rw [st, ← hnb2]
          refine wkR.step (e := []) (s1 := s) (hs1 := hs) (hi1 := hi) (n1 := np ((k, pt k - 1) :: ws)) (a := 1) ?_ xh.nil (by simp only [List.length_nil]; omega) rfl fB (ih ts2 ((k, pt k - 1) :: ws) o 1 (p + 2) s hs hi E _ f (by omega) (t4.2.2.2.m fB) hno.2.2 (by omega) hr2 (by omega) (hA.m fB) u1 ?_ ⟨Or.inr (Or.inr ⟨p4.1, p4.2, by show pt k - 1 + 1 ≤ pt k; omega⟩), ha⟩ ⟨fun x _ => by have : 1 ≤ rk k := x; omega, hsr⟩ (fun x => by omega) (by rw [List.length_cons]; omega) (hbd.mono (by rw [List.length_cons]; omega)) (by omega))
          · exact xv.nil
          · show s.length = dw (k, pt k - 1) + dW ws + (1 - 1)
            omega
        · rw [if_neg y] at hrun
          exact absurd hrun (by simp)
      · rw [run_p6 p1 (by omega) (by omega) p4] at hrun
        exact absurd hrun (by simp)
