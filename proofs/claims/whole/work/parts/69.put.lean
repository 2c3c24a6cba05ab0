/-! PURE ROWS 20: the reference puts a value, reduces, closes a bracket. -/
theorem cMn_6 {k : Nat} (h : rk k = 6) : 1000 ≤ cMn k ∧ cMn k < 1100 := by
  rcases rk6 h with rfl | rfl | rfl <;> decide
theorem cMn_n6 {w : Nat × Nat} (hw : okW w) (h : ¬ rk w.1 = 6) : cMn w.1 < 1000 := by
  unfold cMn
  rw [if_neg h]
  rcases hw with z | z | z
  · have := rk_lt z.1
    repeat' split
    all_goals omega
  · repeat' split
    all_goals omega
  · repeat' split
    all_goals omega
theorem cMn_0 {w : Nat × Nat} (hw : okW w) (h : rk w.1 = 0) : 500 ≤ cMn w.1 ∧ cMn w.1 < 1000 := by
  refine ⟨?_, cMn_n6 hw (by omega)⟩
  unfold cMn
  rw [if_neg (by omega)]
  rcases hw with z | z | z
  · omega
  · rw [if_pos z.1]; omega
  · rw [if_neg (by omega), if_pos ⟨z.1, z.2.1⟩]; omega
theorem lvI_op : ∀ k, k < 125 → 1 ≤ rk k → rk k ≤ 5 → lvI (nI k) = nI (rk k) := by decide +kernel
theorem pu_strip {N : Nat} {A : Nat → Nat → Int32} {n : Nat} : ∀ (ws : List (Nat × Nat)) (s : List Int32) (hs : List Nat) (hi : Nat) (τ : St) (f : Nat), envIs τ A → mst τ ws s hs hi → 1 ≤ s.length → s.length ≤ 58 → allW ws → bd hs hi (n + ws.length) → ws.length < 100 → ws.length < f →
    ∃ (τ2 : St) (s2 : List Int32) (hs2 : List Nat) (hi2 : Nat), J_Mod_put_43 N f τ = some τ2 ∧ mst τ2 (unw 6 ws).2 s2 hs2 hi2 ∧ s2.length = s.length ∧ bd hs2 hi2 (n + (unw 6 ws).2.length) ∧ (∀ rl sd, xv rl A (unw 6 ws).1 s sd s2 sd) ∧ xh (unw 6 ws).1 hs hi hs2 hi2 ∧ oFr τ τ2 := by
  intro ws
  induction ws with
  | nil =>
    intro s hs hi τ f hA hm h1 h58 ha hb hl hf
    obtain ⟨f, rfl⟩ : ∃ k, f = k + 1 := ⟨f - 1, by omega⟩
    refine ⟨τ, s, hs, hi, ?_, hm, rfl, hb, fun _ _ => xv.nil, xh.nil, oFr.rf τ⟩
    rw [J_Mod_put_43, hm.1, if_pos (by decide)]
  | cons w ws ih =>
    intro s hs hi τ f hA hm h1 h58 ha hb hl hf
    obtain ⟨f, rfl⟩ : ∃ k, f = k + 1 := ⟨f - 1, by omega⟩
    simp only [List.length_cons] at hb hl hf
    have m1 : τ.1 9 = nI (ws.length + 1) := hm.1
    have st : J_Mod_put_43 N (f + 1) τ = if nI (cMn w.1) < 1000 then some τ else ax_bindV (J_Mod_one N τ) (fun σ5 => J_Mod_put_43 N f σ5) := by
      rw [J_Mod_put_43, m1, if_neg (nI_nle (by omega) (by omega)), nI_pred, if_pos (pu_inB (by omega) (by decide)), nI_clamp (by omega), show τ.2 14 ws.length = nI (cMn w.1) from hm.2.1.1]
    by_cases q : rk w.1 = 6
    · have c := cMn_6 q
      rw [if_neg (show ¬ nI (cMn w.1) < 1000 from nI_nlt (b := 1000) c.1 (by omega))] at st
      have eU : unw 6 (w :: ws) = ((w.1, 0) :: (unw 6 ws).1, (unw 6 ws).2) := by rw [unw, if_pos (by omega)]
      have hdw : dw (w.1, 0) = 0 := by rw [dw_op (by omega), if_pos q]
      obtain ⟨τ2, s2, hs2, hi2, g1, g2, g3, g4, g5, g6, g7⟩ := pu_one (N := N) (k := w.1) (d := w.2) (r := s.length) (n := n + ws.length) (by omega) hA hm (by omega) h1 hb (by omega) h58
      obtain ⟨τ3, s3, hs3, hi3, i1, i2, i3, i4, i5, i6, i7⟩ := ih s2 hs2 hi2 τ2 f (hA.o g7) g2 (by omega) (by omega) ha.2 g4 (by omega) (by omega)
      rw [eU]
      refine ⟨τ3, s3, hs3, hi3, ?_, i2, by omega, i4, fun rl sd => (g5 rl sd).tr (i5 rl sd), g6.tr i6, g7.tr i7⟩
      rw [st, g1, ax_bsV]
      exact i1
    · have eU : unw 6 (w :: ws) = ([], w :: ws) := by rw [unw, if_neg (by have := rk_le w.1; omega)]
      rw [eU]
      refine ⟨τ, s, hs, hi, ?_, hm, rfl, by rw [List.length_cons]; exact hb, fun _ _ => xv.nil, xh.nil, oFr.rf τ⟩
      rw [st, if_pos (show nI (cMn w.1) < 1000 from nI_lt (b := 1000) (cMn_n6 ha.1 q) (by decide))]
/-- reducing -/
theorem pu_red {N r : Nat} {A : Nat → Nat → Int32} {n : Nat} (hr1 : 1 ≤ r) (hr5 : r ≤ 5) : ∀ (ws : List (Nat × Nat)) (s : List Int32) (hs : List Nat) (hi : Nat) (τ : St) (f : Nat), envIs τ A → mst τ ws s hs hi → s.length = dW ws + 1 → s.length ≤ 58 → allW ws → srt ws → tr ws ≤ 5 → bd hs hi (n + ws.length) → ws.length < 100 → ws.length < f →
    ∃ (τ2 : St) (s2 : List Int32) (hs2 : List Nat) (hi2 : Nat), J_Mod_reduce_0 N f (nI r) τ = some τ2 ∧ mst τ2 (unw r ws).2 s2 hs2 hi2 ∧ s2.length = dW (unw r ws).2 + 1 ∧ bd hs2 hi2 (n + (unw r ws).2.length) ∧ (∀ rl sd, xv rl A (unw r ws).1 s sd s2 sd) ∧ xh (unw r ws).1 hs hi hs2 hi2 ∧ oFr τ τ2 ∧ s2.length + (unw r ws).2.length ≤ s.length + ws.length := by
  intro ws
  induction ws with
  | nil =>
    intro s hs hi τ f hA hm h1 h58 ha hsr htr hb hl hf
    obtain ⟨f, rfl⟩ : ∃ k, f = k + 1 := ⟨f - 1, by omega⟩
    refine ⟨τ, s, hs, hi, ?_, hm, h1, hb, fun _ _ => xv.nil, xh.nil, oFr.rf τ, Nat.le_refl _⟩
    rw [J_Mod_reduce_0, hm.1, if_pos (by decide)]
  | cons w ws ih =>
    intro s hs hi τ f hA hm h1 h58 ha hsr htr hb hl hf
    obtain ⟨f, rfl⟩ : ∃ k, f = k + 1 := ⟨f - 1, by omega⟩
    simp only [List.length_cons] at hb hl hf
    have htr : rk w.1 ≤ 5 := htr
    have m1 : τ.1 9 = nI (ws.length + 1) := hm.1
    have st : J_Mod_reduce_0 N (f + 1) (nI r) τ = if 500 ≤ nI (cMn w.1) then some τ else if lvI (nI (cMn w.1)) < nI r then some τ else ax_bindV (J_Mod_one N τ) (fun σ5 => J_Mod_reduce_0 N f (nI r) σ5) := by
      rw [J_Mod_reduce_0, m1, if_neg (nI_nle (by omega) (by omega)), nI_pred, if_pos (pu_inB (by omega) (by decide)), nI_clamp (by omega), show τ.2 14 ws.length = nI (cMn w.1) from hm.2.1.1, if_pos (pu_inB (by omega) (by decide)), pu_lev, ax_bs]
    have stop : unw r (w :: ws) = ([], w :: ws) → J_Mod_reduce_0 N (f + 1) (nI r) τ = some τ → ∃ (τ2 : St) (s2 : List Int32) (hs2 : List Nat) (hi2 : Nat), J_Mod_reduce_0 N (f + 1) (nI r) τ = some τ2 ∧ mst τ2 (unw r (w :: ws)).2 s2 hs2 hi2 ∧ s2.length = dW (unw r (w :: ws)).2 + 1 ∧ bd hs2 hi2 (n + (unw r (w :: ws)).2.length) ∧ (∀ rl sd, xv rl A (unw r (w :: ws)).1 s sd s2 sd) ∧ xh (unw r (w :: ws)).1 hs hi hs2 hi2 ∧ oFr τ τ2 ∧ s2.length + (unw r (w :: ws)).2.length ≤ s.length + (w :: ws).length := by
      intro eU e
      rw [eU]
      exact ⟨τ, s, hs, hi, e, hm, h1, by rw [List.length_cons]; exact hb, fun _ _ => xv.nil, xh.nil, oFr.rf τ, Nat.le_refl _⟩
    by_cases q0 : rk w.1 = 0
    · have c := cMn_0 ha.1 q0
      refine stop (by rw [unw, if_neg (by omega)]) ?_
      rw [st, if_pos (show 500 ≤ nI (cMn w.1) from nI_le (a := 500) c.1 (by omega))]
    · obtain ⟨c1, c2⟩ := cMn_op (k := w.1) (by omega) (by omega)
      rw [c1, if_neg (show ¬ 500 ≤ nI w.1 from nI_ge (b := 500) (by omega) (by decide)), lvI_op w.1 c2 (by omega) htr] at st
      by_cases q : r ≤ rk w.1
      · rw [if_neg (nI_nlt q (by omega))] at st
        have eU : unw r (w :: ws) = ((w.1, 0) :: (unw r ws).1, (unw r ws).2) := by rw [unw, if_pos q]
        have hdw : dw (w.1, 0) = 1 := by rw [dw_op (by omega), if_neg (by omega)]
        have hdw2 : dw w = 1 := by
          have := dw_op (k := w.1) (d := w.2) (by omega)
          rw [if_neg (by omega)] at this
          exact this
        have hdW : dW (w :: ws) = dw w + dW ws := rfl
        have hts := hsr.1 (by omega) htr
        obtain ⟨τ2, s2, hs2, hi2, g1, g2, g3, g4, g5, g6, g7⟩ := pu_one (N := N) (k := w.1) (d := w.2) (r := dW ws + 1) (n := n + ws.length) (by omega) hA hm (by omega) (by omega) hb (by omega) h58
        obtain ⟨τ3, s3, hs3, hi3, i1, i2, i3, i4, i5, i6, i7, i8⟩ := ih s2 hs2 hi2 τ2 f (hA.o g7) g2 (by omega) (by omega) ha.2 hsr.2 (by omega) g4 (by omega) (by omega)
        rw [eU]
        refine ⟨τ3, s3, hs3, hi3, ?_, i2, i3, i4, fun rl sd => (g5 rl sd).tr (i5 rl sd), g6.tr i6, g7.tr i7, ?_⟩
        · rw [st, g1, ax_bsV]
          exact i1
        · rw [List.length_cons]
          show s3.length + (unw r ws).2.length ≤ _
          omega
      · refine stop (by rw [unw, if_neg q]) ?_
        rw [st, if_pos (nI_lt (by omega) (by omega))]
/-- a value is put -/
theorem pu_put {N n : Nat} {A : Nat → Nat → Int32} {τ : St} {ws : List (Nat × Nat)} {s : List Int32} {hs : List Nat} {hi h : Nat} {v : Int32} (hN1 : 100 ≤ N) (hA : envIs τ A) (hm : mst τ ws s hs hi) (h58 : s.length ≤ 57) (ha : allW ws) (hb : bd hs hi (n + ws.length)) (hh : h + 1 + (n + ws.length) ≤ 60) :
    ∃ (τ2 : St) (s2 : List Int32) (hs2 : List Nat) (hi2 : Nat), J_Mod_put N v (nI (h + 1)) τ = some τ2 ∧ mst τ2 (unw 6 ws).2 s2 hs2 hi2 ∧ s2.length = s.length + 1 ∧ bd hs2 hi2 (n + (unw 6 ws).2.length) ∧ (∀ rl sd, xv rl A (unw 6 ws).1 (v :: s) sd s2 sd) ∧ xh (unw 6 ws).1 (h :: hs) (max hi (h + 1)) hs2 hi2 ∧ oFr τ τ2 := by
  obtain ⟨m1, m2, m3, m4, m5, m6, m7⟩ := hm
  have hib : inB (nI s.length) 60 = true := pu_inB (by omega) (by decide)
  have hbi := hb.1
  have st : J_Mod_put N v (nI (h + 1)) τ = J_Mod_put_43 N N (sF (sF (sA (sA τ 12 s.length v) 13 s.length (nI (h + 1))) 8 (nI (s.length + 1))) 12 (nI (max hi (h + 1)))) := by
    rw [J_Mod_put, m3, if_pos hib, nI_clamp (by omega), ax_let, show (sA τ 12 s.length v).1 8 = nI s.length from m3, if_pos hib, nI_clamp (by omega), ax_let, show (sA (sA τ 12 s.length v) 13 s.length (nI (h + 1))).1 8 = nI s.length from m3, nI_1, ax_let, show (sF (sA (sA τ 12 s.length v) 13 s.length (nI (h + 1))) 8 (nI (s.length + 1))).1 12 = nI hi from m7, ax_let]
    by_cases q : h + 1 ≤ hi
    · rw [if_pos (nI_le q (by omega)), show max hi (h + 1) = hi by omega, sF_id (sF (sA (sA τ 12 s.length v) 13 s.length (nI (h + 1))) 8 (nI (s.length + 1))) 12 (nI hi) m7]
    · rw [if_neg (nI_ge (by omega) (by omega)), show max hi (h + 1) = h + 1 by omega]
  generalize hτ1 : sF (sF (sA (sA τ 12 s.length v) 13 s.length (nI (h + 1))) 8 (nI (s.length + 1))) 12 (nI (max hi (h + 1))) = τ1 at st
  have f1 : oFr τ τ1 := by
    rw [← hτ1]
    refine ⟨fun k k1 _ k3 => ?_, fun k k1 k2 _ => ?_⟩
    · show upd (upd τ.1 8 _) 12 _ k = _
      rw [pk_un k3, pk_un k1]
    · show (sA (sA τ 12 s.length v) 13 s.length (nI (h + 1))).2 k = _
      rw [sA_ne _ _ _ k2, sA_ne _ _ _ k1]
  have hm1 : mst τ1 ws (v :: s) (h :: hs) (max hi (h + 1)) := by
    rw [← hτ1]
    refine ⟨m1, ?_, rfl, ?_, by rw [List.length_cons, List.length_cons, m5], ?_, rfl⟩
    · show sIs _ ((sA (sA τ 12 s.length v) 13 s.length (nI (h + 1))).2 14) ws
      rw [sA_ne _ _ _ (by decide), sA_ne _ _ _ (by decide)]
      exact m2
    · show sIs _ ((sA (sA τ 12 s.length v) 13 s.length (nI (h + 1))).2 12) _
      rw [sA_ne _ _ _ (by decide), sA_self]
      exact sIs.push m4 v
    · show sIs _ ((sA (sA τ 12 s.length v) 13 s.length (nI (h + 1))).2 13) _
      rw [sA_self, sA_ne _ _ _ (by decide), ← m5]
      exact sIs.push m6 h
  have hl : ws.length < 60 := by omega
  obtain ⟨τ2, s2, hs2, hi2, g1, g2, g3, g4, g5, g6, g7⟩ := pu_strip (N := N) (n := n) ws (v :: s) (h :: hs) (max hi (h + 1)) τ1 N (hA.o f1) hm1 (by rw [List.length_cons]; omega) (by rw [List.length_cons]; omega) ha (hb.push hh) (by omega) (by omega)
  exact ⟨τ2, s2, hs2, hi2, st.trans g1, g2, by rw [g3, List.length_cons], g4, g5, g6, f1.tr g7⟩
