/-! PURE ROWS 17: the loop of the console's reader. -/
theorem rst.emit {N k p o m b c c2 : Nat} {x : Int32} {V : Nat → Nat → Nat} {σ : St} {ws : List (Nat × Nat)} {Er : List (Nat × Int32)} {hs hs2 : List Nat} {hi hi2 : Nat} (hN1 : 100 ≤ N) (h : rst V σ p o m b ws Er hs hi c) (hE : Er.length < 48) (hh : hN k (hs, hi) = some (hs2, hi2)) (hl : hs2.length = dW ws + 1 + c2) : ∃ σ2 : St, J_LineReader_emit N (nI k) (opC (k, x)) (nI (ar k)) σ = some σ2 ∧ rst V σ2 p o 0 b ws ((k, x) :: Er) hs2 hi2 c2 ∧ rFr σ σ2 := by
  obtain ⟨s1, s2, s3, s4, s5, s6, s7, s8⟩ := h
  obtain ⟨σ2, g1, g2, g3⟩ := pu_emit (N := N) (x := x) (by omega) s5 hE hh
  have f1 : ∀ k, k ≠ 10 → k ≠ 11 → k ≠ 12 → k ≠ 15 → σ2.1 k = σ.1 k := g3.1
  have f2 : ∀ k, k ≠ 6 → k ≠ 7 → k ≠ 8 → σ2.2 k = σ.2 k := g3.2.1
  exact ⟨σ2, g1, ⟨(f1 7 (by decide) (by decide) (by decide) (by decide)).trans s1, (f1 14 (by decide) (by decide) (by decide) (by decide)).trans s2, g3.2.2, s4.cg (f1 13 (by decide) (by decide) (by decide) (by decide)) (f2 9 (by decide) (by decide) (by decide)) (f2 10 (by decide) (by decide) (by decide)) (f2 11 (by decide) (by decide) (by decide)), g2, s6.cg (f1 5 (by decide) (by decide) (by decide) (by decide)) (f1 6 (by decide) (by decide) (by decide) (by decide)) (f2 5 (by decide) (by decide) (by decide)), by omega, s8⟩, g3.r⟩
/-- a joining token on the console's side -/
theorem pu_join {N k p o b c : Nat} {V : Nat → Nat → Nat} {σ : St} {ws : List (Nat × Nat)} {Er : List (Nat × Int32)} {hs : List Nat} {hi : Nat} (hN1 : 100 ≤ N) (hk : k ≤ 126) (h : rst V σ p o 0 b ws Er hs hi c) (hb : Er.length + ws.length < 48) (ho : o ≤ 5) :
    (jn k (unw 6 ws).2 o = none ∧ ∃ σ2 : St, J_LineReader_takeJoin N (nI k) σ = some (0, σ2) ∧ σ2.1 7 = nI p ∧ rFr σ σ2 ∧ nmS V b σ2) ∨
    (∃ (e eC pre2 : List (Nat × Int32)) (ws2 ws3 : List (Nat × Nat)) (o2 m2 c2 : Nat) (hs2 : List Nat) (hi2 : Nat) (σ2 : St), jn k (unw 6 ws).2 o = some (e, ws3, o2, m2) ∧ J_LineReader_takeJoin N (nI k) σ = some (1, σ2) ∧ rst V σ2 p o2 m2 b ws2 (eC.reverse ++ Er) hs2 hi2 c2 ∧ exH eC (hs, hi) = some (hs2, hi2) ∧ (unw 6 ws).1 ++ e = eC ++ pre2 ∧ rFr σ σ2 ∧ m2 ≤ 1 ∧ o2 ≤ 5 ∧ eC.length + ws2.length ≤ ws.length + 1 ∧ (m2 = 0 → pre2 = (unw 6 ws2).1 ∧ ws3 = (unw 6 ws2).2) ∧ (m2 = 1 → pre2 = [] ∧ ws3 = ws2)) := by
  have hrk := rk_le k
  have hU : ∀ r, r ≤ 6 → (unw r ws).1 = (unw 6 ws).1 ++ (unw r (unw 6 ws).2).1 ∧ (unw r ws).2 = (unw r (unw 6 ws).2).2 := fun r hr => by
    have := unw_unw hr ws
    exact ⟨by rw [this], by rw [this]⟩
  have u1 := unw_len 1 ws
  obtain ⟨hU1, hU2⟩ := hU 1 (by omega)
  by_cases q1 : k = 41
  · -- a closing bracket
    obtain ⟨σ1, hs1, hi1, g1, g2, g3, g4⟩ := rd_unw (N := N) (r := 1) hN1 (by omega) (by omega) h (by omega)
    obtain ⟨s1, s2, s3, s4, s5, s6, s7, s8⟩ := id g2
    have st : J_LineReader_takeJoin N (nI k) σ = ax_bind (J_LineReader_takeClose N σ) (fun r3 σ3 => some (r3, σ3)) := by
      rw [J_LineReader_takeJoin, if_pos (show nI k = 41 from (kne hk (by decide)).mpr q1)]
    rw [st, J_LineReader_takeClose, show (1 : Int32) = nI 1 from rfl, g1, ax_bsV]
    unfold jn
    rw [if_pos q1, ← hU2]
    cases hU3 : (unw 1 ws).2 with
    | nil =>
      rw [hU3] at s4
      rw [if_pos (show σ1.1 13 = 0 from s4.1)]
      exact Or.inl ⟨rfl, σ1, rfl, s1, g4, s6⟩
    | cons w ws2 =>
      have hw0 := unw_top hU3
      rw [hU3] at s4 s7 s8 u1 g2
      simp only [List.length_cons] at u1
      have w1 : σ1.1 13 = nI (ws2.length + 1) := s4.1
      have hib : inB (nI ws2.length) 48 = true := pu_inB (by omega) (by decide)
      rw [w1, if_neg (nI_ne0 (by omega) (by omega)), show nI (ws2.length + 1) - nI 1 = nI ws2.length from nI_pred _, if_pos hib, nI_clamp (by omega), show σ1.2 11 ws2.length = nI w.2 from s4.2.2.2.1]
      simp only []
      have hw2 : w.2 ≤ 2 := by
        have := pt_le w.1
        rcases s8.1 with z | z | z <;> omega
      by_cases z : w.2 = 0
      · rw [z, if_pos (show nI 0 ≤ 0 by decide), ax_let, show (sF σ1 13 (nI ws2.length)).1 13 = nI ws2.length from rfl, if_pos hib, nI_clamp (by omega), show (sF σ1 13 (nI ws2.length)).2 9 ws2.length = nI w.1 from s4.2.1.1, ax_let, if_pos (show (0 : Nat) = 0 from rfl)]
        have hk1 : w.1 ≤ 126 := by
          rcases s8.1 with y | y | y
          · have := rk_lt y.1; omega
          · omega
          · omega
        have hw4 : wst (sF σ1 13 (nI ws2.length)) ws2 := ⟨rfl, s4.2.1.2, s4.2.2.1.2, s4.2.2.2.2⟩
        have hdw : dW (w :: ws2) = dw w + dW ws2 := rfl
        have hwe : w = (w.1, 0) := by rw [← z]
        have hdb := dw_br (d := 0) hw0
        rw [← hwe] at hdb
        by_cases y : w.1 = 40
        · rw [if_pos (show nI w.1 = 40 from (kne hk1 (by decide)).mpr y), if_pos y, ax_bs]
          rw [if_pos y] at hdb
          refine Or.inr ⟨_, (unw 1 ws).1, (unw 6 ws2).1, ws2, _, o, 0, c, hs1, hi1, sF σ1 13 (nI ws2.length), rfl, rfl, ⟨s1, s2, s3, hw4, s5, s6, by omega, s8.2⟩, g3, ?_, g4.tr (rFr.f _ 13 _ (by omega)), by omega, ho, by omega, fun _ => ⟨rfl, rfl⟩, fun x => by omega⟩
          rw [hU1, List.append_assoc]
        · rw [if_neg y] at hdb
          rw [if_neg (show ¬ nI w.1 = 40 from fun x => y ((kne hk1 (by decide)).mp x)), if_neg y]
          have hfn : 13 ≤ w.1 ∧ w.1 ≤ 20 := by
            rcases s8.1 with x | x | x
            · omega
            · omega
            · omega
          obtain ⟨p1, p2, -⟩ := tP_fn w.1 hfn.2 hfn.1
          have hp := pt_le w.1
          obtain ⟨hs5, hi5, e1, e2⟩ := hN_fn (hs := hs1) (hi := hi1) (r := dW ws2 + c) hfn.1 hfn.2 (by omega)
          have hr4 : rst V (sF σ1 13 (nI ws2.length)) p o 0 b ws2 ((unw 1 ws).1.reverse ++ Er) hs1 hi1 (c + pt w.1 - 1) := ⟨s1, s2, s3, hw4, s5, s6, by omega, s8.2⟩
          obtain ⟨σ6, j1, j2, j3⟩ := hr4.emit (N := N) (x := 0) (c2 := c) hN1 (by rw [List.length_append, List.length_reverse]; omega) e1 (by omega)
          rw [opC_0, p2] at j1
          rw [show (4 : Int32) = nI 4 from rfl, pk_sub (by omega), if_pos (pu_inB (by omega) (by decide)), nI_clamp (by omega), p1, j1, ax_bsV, ax_bs]
          refine Or.inr ⟨_, (unw 1 ws).1 ++ [(w.1, 0)], (unw 6 ws2).1, ws2, _, o, 0, c, hs5, hi5, σ6, rfl, rfl, ?_, exH_app _ _ _ _ _ g3 (exH_one e1), ?_, (g4.tr (rFr.f _ 13 _ (by omega))).tr j3, by omega, ho, by rw [List.length_append, List.length_cons, List.length_nil]; omega, fun _ => ⟨rfl, rfl⟩, fun x => by omega⟩
          · rw [List.reverse_append]
            exact j2
          · rw [hU1]
            simp only [List.append_assoc, List.cons_append, List.nil_append]
      · rw [if_neg (show ¬ nI w.2 ≤ 0 from nI_nle (by omega) (by omega)), if_neg z, ax_bs]
        exact Or.inl ⟨rfl, σ1, rfl, s1, g4, s6⟩
  by_cases q2 : k = 44
  · -- a comma
    obtain ⟨σ1, hs1, hi1, g1, g2, g3, g4⟩ := rd_unw (N := N) (r := 1) hN1 (by omega) (by omega) h (by omega)
    obtain ⟨s1, s2, s3, s4, s5, s6, s7, s8⟩ := id g2
    have st : J_LineReader_takeJoin N (nI k) σ = ax_bind (J_LineReader_takeComma N σ) (fun r3 σ3 => some (r3, σ3)) := by
      rw [J_LineReader_takeJoin, if_neg (show ¬ nI k = 41 from fun x => q1 ((kne hk (by decide)).mp x)), if_pos (show nI k = 44 from (kne hk (by decide)).mpr q2)]
    have r15 : rFr σ (sF σ1 15 1) := g4.tr (rFr.f _ 15 _ (by omega))
    rw [st, J_LineReader_takeComma, show (1 : Int32) = nI 1 from rfl, g1, ax_bsV, ax_let]
    unfold jn
    rw [if_neg q1, if_pos q2, ← hU2]
    cases hU3 : (unw 1 ws).2 with
    | nil =>
      rw [hU3] at s4 s7 u1
      have s7 : hs1.length = 1 + c := by rw [s7]; show 0 + (1 - 0) + c = 1 + c; omega
      rw [if_pos (show (sF σ1 15 (nI 1)).1 13 = 0 from s4.1), show (sF σ1 15 (nI 1)).1 14 = nI o from s2, ax_let]
      by_cases z : o = 0
      · subst z
        rw [if_pos (show (sF (sF σ1 15 (nI 1)) 14 (nI 0 - nI 1)).1 14 < 0 by show nI 0 - nI 1 < 0; decide), ax_bs]
        simp only []
        rw [if_pos trivial]
        exact Or.inl ⟨rfl, _, rfl, s1, r15.tr (rFr.f _ 14 _ (by omega)), s6⟩
      · obtain ⟨o, rfl⟩ : ∃ j, o = j + 1 := ⟨o - 1, by omega⟩
        rw [show nI (o + 1) - nI 1 = nI o from nI_pred o, if_neg (show ¬ (sF (sF σ1 15 (nI 1)) 14 (nI o)).1 14 < 0 from nI_pos (by omega)), ax_bs]
        simp only []
        rw [if_neg z]
        refine Or.inr ⟨_, (unw 1 ws).1, [], [], _, o, 1, c + 1, hs1, hi1, sF (sF σ1 15 (nI 1)) 14 (nI o), rfl, rfl, ⟨s1, rfl, rfl, ⟨s4.1, trivial, trivial, trivial⟩, s5, s6, ?_, trivial⟩, g3, ?_, r15.tr (rFr.f _ 14 _ (by omega)), by omega, by omega, by simp only [List.length_nil] at u1 ⊢; omega, fun x => by omega, fun _ => ⟨rfl, rfl⟩⟩
        · show hs1.length = 0 + (1 - 1) + (c + 1)
          omega
        · rw [hU1, List.append_nil]
    | cons w ws2 =>
      have hw0 := unw_top hU3
      rw [hU3] at s4 s7 s8 u1
      simp only [List.length_cons] at u1
      have w1 : (sF σ1 15 (nI 1)).1 13 = nI (ws2.length + 1) := s4.1
      have hib : inB (nI ws2.length) 48 = true := pu_inB (by omega) (by decide)
      have hv : (sF σ1 15 (nI 1)).2 11 ws2.length = nI w.2 := s4.2.2.2.1
      rw [w1, if_neg (nI_ne0 (by omega) (by omega)), show nI (ws2.length + 1) - nI 1 = nI ws2.length from nI_pred _, if_pos hib, if_pos hib, nI_clamp (by omega), hv, ax_let]
      rw [show (sA (sF σ1 15 (nI 1)) 11 ws2.length (nI w.2 - nI 1)).1 13 = nI (ws2.length + 1) from w1, show nI (ws2.length + 1) - nI 1 = nI ws2.length from nI_pred _, if_pos hib, nI_clamp (by omega), sA_self, pk_us]
      simp only []
      have hw2 : w.2 ≤ 2 := by
        have := pt_le w.1
        rcases s8.1 with z | z | z <;> omega
      by_cases z : w.2 = 0
      · rw [z, if_pos (show nI 0 - nI 1 < 0 by decide), ax_bs, if_pos rfl]
        exact Or.inl ⟨rfl, _, rfl, s1, r15.tr (rFr.a _ 11 _ _ (by omega)), s6.cg rfl rfl (sA_ne _ _ _ (by decide))⟩
      · have hw3 : nI w.2 - nI 1 = nI (w.2 - 1) := pk_sub (by omega)
        rw [hw3, if_neg (show ¬ nI (w.2 - 1) < 0 from nI_pos (by omega)), ax_bs, if_neg z]
        have hdw : dW (w :: ws2) = dw w + dW ws2 := rfl
        have hfn : 13 ≤ w.1 ∧ w.1 ≤ 20 ∧ w.2 + 1 ≤ pt w.1 := by
          rcases s8.1 with x | x | x
          · omega
          · omega
          · exact x
        have d1 : dw w = pt w.1 - 1 - w.2 := by
          have := dw_br (d := w.2) hw0
          rw [if_neg (by omega)] at this
          exact this
        have d2 : dw (w.1, w.2 - 1) = pt w.1 - 1 - (w.2 - 1) := by
          have := dw_br (d := w.2 - 1) hw0
          rw [if_neg (by omega)] at this
          exact this
        refine Or.inr ⟨_, (unw 1 ws).1, [], (w.1, w.2 - 1) :: ws2, _, o, 1, c, hs1, hi1, sA (sF σ1 15 (nI 1)) 11 ws2.length (nI (w.2 - 1)), rfl, rfl, ⟨s1, s2, rfl, ⟨w1, ?_, ?_, ?_⟩, s5.cg rfl rfl rfl (sA_ne _ _ _ (by decide)) (sA_ne _ _ _ (by decide)) (sA_ne _ _ _ (by decide)), s6.cg rfl rfl (sA_ne _ _ _ (by decide)), ?_, ?_⟩, g3, ?_, r15.tr (rFr.a _ 11 _ _ (by omega)), by omega, ho, by rw [List.length_cons]; omega, fun x => by omega, fun _ => ⟨rfl, rfl⟩⟩
        · rw [sA_ne _ _ _ (by decide)]
          exact ⟨s4.2.1.1, s4.2.1.2⟩
        · rw [sA_ne _ _ _ (by decide)]
          exact ⟨s4.2.2.1.1, s4.2.2.1.2⟩
        · rw [sA_self]
          exact sIs.push (c := fun w : Nat × Nat => nI w.2) s4.2.2.2.2 (w.1, w.2 - 1)
        · show hs1.length = dw (w.1, w.2 - 1) + dW ws2 + (1 - 1) + c
          omega
        · exact ⟨Or.inr (Or.inr ⟨hfn.1, hfn.2.1, by show w.2 - 1 + 1 ≤ pt w.1; omega⟩), s8.2⟩
        · rw [hU1, List.append_nil]
  have st : J_LineReader_takeJoin N (nI k) σ = if nI (rk k) = 0 then some (0, σ) else if nI (rk k) = 6 then some (0, σ) else if nI (rk k) = 3 then J_LineReader_takeJoin_50 N 4 (nI k) (nI (rk k)) σ else J_LineReader_takeJoin_50 N (nI (rk k)) (nI k) (nI (rk k)) σ := by
    rw [J_LineReader_takeJoin, if_neg (show ¬ nI k = 41 from fun x => q1 ((kne hk (by decide)).mp x)), if_neg (show ¬ nI k = 44 from fun x => q2 ((kne hk (by decide)).mp x)), pu_rank hk, ax_bs]
  unfold jn
  rw [if_neg q1, if_neg q2]
  have s6 := h.2.2.2.2.2.1
  by_cases q3 : rk k = 0 ∨ rk k = 6
  · rw [if_pos q3]
    refine Or.inl ⟨rfl, σ, ?_, h.1, rFr.rf σ, s6⟩
    rw [st]
    rcases q3 with z | z
    · rw [z, if_pos (show nI 0 = 0 from rfl)]
    · rw [z, if_neg (by decide), if_pos (show nI 6 = 6 from rfl)]
  · rw [if_neg q3]
    rw [if_neg (show ¬ nI (rk k) = 0 from nI_ne0 (by omega) (by omega)), if_neg (show ¬ nI (rk k) = 6 from fun x => q3 (Or.inr ((nI_eq (by omega) (by decide)).mp x)))] at st
    have hold : ∀ (r : Nat) (σ1 : St) (hs1 : List Nat) (hi1 : Nat), r ≤ 6 → rst V σ1 p o 0 b (unw r ws).2 ((unw r ws).1.reverse ++ Er) hs1 hi1 c → exH (unw r ws).1 (hs, hi) = some (hs1, hi1) → rFr σ σ1 → J_LineReader_takeJoin N (nI k) σ = J_LineReader_takeJoin_67 N (nI k) (nI (rk k)) σ1 → (∃ (e eC pre2 : List (Nat × Int32)) (ws2 ws3 : List (Nat × Nat)) (o2 m2 c2 : Nat) (hs2 : List Nat) (hi2 : Nat) (σ2 : St), some ((unw r (unw 6 ws).2).1, (k, 0) :: (unw r (unw 6 ws).2).2, o, 1) = some (e, ws3, o2, m2) ∧ J_LineReader_takeJoin N (nI k) σ = some (1, σ2) ∧ rst V σ2 p o2 m2 b ws2 (eC.reverse ++ Er) hs2 hi2 c2 ∧ exH eC (hs, hi) = some (hs2, hi2) ∧ (unw 6 ws).1 ++ e = eC ++ pre2 ∧ rFr σ σ2 ∧ m2 ≤ 1 ∧ o2 ≤ 5 ∧ eC.length + ws2.length ≤ ws.length + 1 ∧ (m2 = 0 → pre2 = (unw 6 ws2).1 ∧ ws3 = (unw 6 ws2).2) ∧ (m2 = 1 → pre2 = [] ∧ ws3 = ws2)) := by
      intro r σ1 hs1 hi1 hr g2 g3 g4 g5
      have ul := unw_len r ws
      obtain ⟨v1, v2⟩ := hU r hr
      obtain ⟨σ2, j1, j2, j3⟩ := rd_hold (N := N) (k := k) (r := rk k) (d := 0) (c2 := c) g2 (by omega) rfl (okW_op (by omega)) (by rw [dw_op (by omega), if_neg (fun x => q3 (Or.inr x))]; omega)
      refine ⟨_, (unw r ws).1, [], (k, 0) :: (unw r ws).2, _, o, 1, c, hs1, hi1, σ2, rfl, ?_, j2, g3, ?_, g4.tr j3, by omega, ho, by rw [List.length_cons]; omega, fun x => by omega, fun _ => ⟨rfl, by rw [v2]⟩⟩
      · rw [g5, J_LineReader_takeJoin_67]
        rw [show nI 0 = (0 : Int32) from rfl] at j1
        rw [j1, ax_bsV]
      · rw [v1, List.append_nil]
    by_cases z : rk k = 3
    · rw [if_pos z]
      rw [z, if_pos (show nI 3 = 3 from rfl), J_LineReader_takeJoin_50, show (4 : Int32) = nI 4 from rfl] at st
      obtain ⟨σ1, hs1, hi1, g1, g2, g3, g4⟩ := rd_unw (N := N) (r := 4) hN1 (by omega) (by omega) h (by omega)
      obtain ⟨v1, v2⟩ := hU 4 (by omega)
      have ul := unw_len 4 ws
      rw [g1, ax_bsV, if_pos (show nI 3 = 3 from rfl)] at st
      obtain ⟨s1, s2, s3, s4, s5, s6, s7, s8⟩ := id g2
      have hwt : J_LineReader_waitsForTest N σ1 = some (if tr (unw 4 ws).2 = 3 then 1 else 0, σ1) := by
        rw [J_LineReader_waitsForTest]
        cases hU3 : (unw 4 ws).2 with
        | nil =>
          rw [hU3] at s4
          rw [if_pos (show σ1.1 13 ≤ 0 by rw [s4.1]; decide)]
          rfl
        | cons w ws2 =>
          rw [hU3] at s4 ul
          simp only [List.length_cons] at ul
          have := rk_le w.1
          rw [show σ1.1 13 = nI (ws2.length + 1) from s4.1, if_neg (nI_nle (by omega) (by omega)), nI_pred, if_pos (pu_inB (by omega) (by decide)), nI_clamp (by omega), show σ1.2 10 ws2.length = nI (rk w.1) from s4.2.2.1.1]
          show _ = some (if rk w.1 = 3 then 1 else 0, σ1)
          by_cases y : rk w.1 = 3
          · rw [if_pos y, if_pos (by rw [y]; rfl)]
          · rw [if_neg y, if_neg (show ¬ nI (rk w.1) = 3 from fun x => y ((nI_eq (b := 3) (by omega) (by decide)).mp x))]
      rw [hwt, ax_bs] at st
      rw [← v2]
      by_cases y : tr (unw 4 ws).2 = 3
      · rw [if_pos y, if_neg (by decide)] at st
        rw [if_pos y]
        exact Or.inl ⟨rfl, σ1, st, s1, g4, s6⟩
      · rw [if_neg y, if_pos rfl] at st
        rw [if_neg y]
        have := hold 4 σ1 hs1 hi1 (by omega) g2 g3 g4 (by rw [z]; exact st)
        rw [← v2] at this
        exact Or.inr this
    · rw [if_neg z]
      rw [if_neg (show ¬ nI (rk k) = 3 from fun x => z ((nI_eq (b := 3) (by omega) (by decide)).mp x)), J_LineReader_takeJoin_50] at st
      obtain ⟨σ1, hs1, hi1, g1, g2, g3, g4⟩ := rd_unw (N := N) (r := rk k) hN1 (by omega) (by omega) h (by omega)
      rw [g1, ax_bsV, if_neg (show ¬ nI (rk k) = 3 from fun x => z ((nI_eq (b := 3) (by omega) (by decide)).mp x))] at st
      exact Or.inr (hold (rk k) σ1 hs1 hi1 (by omega) g2 g3 g4 st)
theorem rst.at {p o m b hi c p2 : Nat} {V : Nat → Nat → Nat} {σ : St} {ws : List (Nat × Nat)} {Er : List (Nat × Int32)} {hs : List Nat} (h : rst V σ p o m b ws Er hs hi c) : rst V (sF σ 7 (nI p2)) p2 o m b ws Er hs hi c := ⟨rfl, h.2⟩
theorem run_nilN {ws : List (Nat × Nat)} {o m : Nat} (h : ¬ (m = 0 ∧ o = 0)) : run [] ws o m = Sum.inl 0 := by
  rw [run_nil, if_neg (fun x => h ⟨x.1, x.2.1⟩)]
set_option maxHeartbeats 1000000 in
theorem rd_loop {N B T : Nat} {V : Nat → Nat → Nat} (hN1 : 100 ≤ N) (hV : ∀ k j, V k j ≤ 26) (hT : T ≤ 48) : ∀ (L : Nat) (ts : List (Nat × Int32)) (ws : List (Nat × Nat)) (o m p b : Nat) (Er : List (Nat × Int32)) (hs : List Nat) (hi c : Nat) (σ : St) (f : Nat), ts.length ≤ L → tkC V B σ (p + 1) b ts → p + 1 + ts.length = T → rst V σ p o m b ws Er hs hi c → m ≤ 1 → o ≤ 5 → b ≤ 20 + p → Er.length + ws.length ≤ p → ts.length < f →
    rdR V B σ p b hs hi Er (if m = 0 then (unw 6 ws).1 else []) (J_LineReader_readExpressions_12 N f σ) (run ts (if m = 0 then (unw 6 ws).2 else ws) o m) := by
  intro L
  induction L with
  | zero =>
    intro ts ws o m p b Er hs hi c σ f hL ht hp hr hm ho hb hE hf
    obtain ⟨f, rfl⟩ : ∃ k, f = k + 1 := ⟨f - 1, by omega⟩
    have h0 : ts = [] := List.length_eq_zero_iff.mp (by omega)
    subst h0
    have hpT : p + 1 = T := hp
    obtain ⟨hbB, hk0⟩ := ht
    have hr2 : rst V (sF σ 7 (nI (p + 1))) (p + 1) o m b ws Er hs hi c := hr.at
    have hf7 : rFr σ (sF σ 7 (nI (p + 1))) := rFr.f σ 7 _ (by omega)
    have st : J_LineReader_readExpressions_12 N (f + 1) σ = ax_bind (J_LineReader_finish N (sF σ 7 (nI (p + 1)))) (fun r3 σ6 => some (r3, σ6)) := by
      rw [J_LineReader_readExpressions_12, hr.1, if_neg (show ¬ 48 ≤ nI p from nI_ge (b := 48) (by omega) (by decide)), nI_1, ax_let, show (sF σ 7 (nI (p + 1))).1 7 = nI (p + 1) from rfl, if_pos (pu_inB (by omega) (by decide)), nI_clamp (by omega), show (sF σ 7 (nI (p + 1))).2 2 (p + 1) = 0 from hk0, ax_let, if_pos rfl]
    rw [st, J_LineReader_finish, hr2.2.2.1]
    have bad : ∀ σ2 : St, rFr (sF σ 7 (nI (p + 1))) σ2 → σ2.1 7 = nI (p + 1) → nmS V b σ2 → rdR V B σ p b hs hi Er (if m = 0 then (unw 6 ws).1 else []) (some (0, σ2)) (Sum.inl 0) := fun σ2 h1 h2 h3 => ⟨σ2, b, rfl, h2, hf7.tr h1, h3, Nat.le_refl _⟩
    by_cases q : m = 0
    · subst q
      rw [if_pos (show nI 0 = 0 from rfl), hr2.2.1]
      by_cases q2 : o = 0
      · subst q2
        rw [if_pos (show nI 0 ≤ 0 by decide)]
        obtain ⟨σ1, hs1, hi1, g1, g2, g3, g4⟩ := rd_unw (N := N) (r := 1) hN1 (by omega) (by omega) hr2 (by omega)
        rw [show (1 : Int32) = nI 1 from rfl, g1, ax_bsV]
        have hU := unw_unw (show 1 ≤ 6 by omega) ws
        have hU1 : (unw 1 ws).1 = (unw 6 ws).1 ++ (unw 1 (unw 6 ws).2).1 := by rw [hU]
        have hU2 : (unw 1 ws).2 = (unw 1 (unw 6 ws).2).2 := by rw [hU]
        have ul := unw_len 1 ws
        simp only [if_true]
        rw [run_nil, ← hU2]
        cases hz : (unw 1 ws).2 with
        | nil =>
          rw [hz] at g2
          rw [if_pos (show σ1.1 13 = 0 from g2.2.2.2.1.1), ax_bs, if_pos ⟨rfl, rfl, rfl⟩]
          refine ⟨σ1, hs1, hi1, rfl, hf7.tr g4, by rw [← hbB]; exact g2.2.2.2.2.2.1, by omega, ?_, ?_⟩
          · rw [← hU1]
            exact g2.2.2.2.2.1
          · rw [← hU1]
            exact g3
        | cons w ws2 =>
          rw [hz] at g2 ul
          simp only [List.length_cons] at ul
          rw [show σ1.1 13 = nI (ws2.length + 1) from g2.2.2.2.1.1, if_neg (nI_ne0 (by omega) (by omega)), ax_bs, if_neg (fun x => absurd x.2.2 (by simp))]
          exact ⟨σ1, b, rfl, g2.1, hf7.tr g4, g2.2.2.2.2.2.1, Nat.le_refl _⟩
      · rw [if_neg (show ¬ nI o ≤ 0 from nI_nle (by omega) (by omega)), ax_bs, run_nilN (fun x => q2 x.2)]
        exact bad _ (rFr.rf _) rfl hr2.2.2.2.2.2.1
    · rw [if_neg (show ¬ nI m = 0 from nI_ne0 (by omega) (by omega)), ax_bs, run_nilN (fun x => q x.1)]
      exact bad _ (rFr.rf _) rfl hr2.2.2.2.2.2.1
  | succ L ih =>
    intro ts ws o m p b Er hs hi c σ f hL ht hp hr hm ho hb hE hf
    by_cases hlen : ts.length ≤ L
    · exact ih ts ws o m p b Er hs hi c σ f hlen ht hp hr hm ho hb hE hf
    cases ts with
    | nil => exact absurd (Nat.zero_le L) hlen
    | cons t ts =>
    obtain ⟨f, rfl⟩ : ∃ k, f = k + 1 := ⟨f - 1, by omega⟩
    obtain ⟨k, v⟩ := t
    obtain ⟨t1, t2, t3⟩ := ht
    simp only [List.length_cons] at hL hp hf hlen
    have t1 : okk k = true := t1
    have t2 : σ.2 2 (p + 1) = nI k := t2
    have t3 : k = 1 ∨ ∃ b2, (k = 2 → σ.2 4 (p + 1) = v) ∧ (k = 3 → nmR V b b2 (σ.2 4 (p + 1)) v) ∧ (k ≠ 3 → b2 = b) ∧ tkC V B σ (p + 1 + 1) b2 ts := t3
    have hk := okk_lt t1
    have hk1 : 1 ≤ k := by
      unfold okk at t1
      simp only [Bool.and_eq_true, decide_eq_true_eq] at t1
      exact t1.1
    have hr2 : rst V (sF σ 7 (nI (p + 1))) (p + 1) o m b ws Er hs hi c := hr.at
    have hf7 : rFr σ (sF σ 7 (nI (p + 1))) := rFr.f σ 7 _ (by omega)
    have st : J_LineReader_readExpressions_12 N (f + 1) σ = if nI m = 0 then ax_bind (J_LineReader_takeJoin N (nI k) (sF σ 7 (nI (p + 1)))) (fun r1 σ4 => if r1 = 0 then some (0, σ4) else J_LineReader_readExpressions_12 N f σ4) else ax_bind (J_LineReader_takePart N (nI k) (sF σ 7 (nI (p + 1)))) (fun r1 σ4 => if r1 = 0 then some (0, σ4) else J_LineReader_readExpressions_12 N f σ4) := by
      rw [J_LineReader_readExpressions_12, hr.1, if_neg (show ¬ 48 ≤ nI p from nI_ge (b := 48) (by omega) (by decide)), nI_1, ax_let, show (sF σ 7 (nI (p + 1))).1 7 = nI (p + 1) from rfl, if_pos (pu_inB (by omega) (by decide)), nI_clamp (by omega), show (sF σ 7 (nI (p + 1))).2 2 (p + 1) = nI k from t2, ax_let, if_neg (show ¬ nI k = 0 from nI_ne0 (by omega) (by omega)), show (sF σ 7 (nI (p + 1))).1 15 = nI m from hr.2.2.1]
    rw [st]
    generalize hσ1 : sF σ 7 (nI (p + 1)) = σ1 at hr2 hf7
    by_cases q : m = 0
    · -- a joining token
      subst q
      rw [if_pos (show nI 0 = 0 from rfl)]
      simp only [if_true]
      rcases pu_join (N := N) hN1 hk hr2 (by omega) ho with ⟨j1, σ2, j2, j3, j4, j5⟩ | ⟨e, eC, pre2, ws2, ws3, o2, m2, c2, hs2, hi2, σ2, j1, j2, j3, j4, j5, j6, j7, j8, j9, j10, j11⟩
      · rw [j2, ax_bs, if_pos rfl, run_j0 j1]
        exact ⟨σ2, b, rfl, j3, hf7.tr j4, j5, Nat.le_refl _⟩
      · rw [j2, ax_bs, if_neg (by decide), run_j1 j1]
        have hk1' : k ≠ 1 := fun x => by
          rw [x] at j1
          exact absurd j1 (by unfold jn; simp [show rk 1 = 0 by decide])
        have hk3' : k ≠ 3 := fun x => by
          rw [x] at j1
          exact absurd j1 (by unfold jn; simp [show rk 3 = 0 by decide])
        rcases t3 with t3 | ⟨b2, -, -, t3, t4⟩
        · exact absurd t3 hk1'
        have t3 := t3 hk3'
        subst t3
        have i := ih ts ws2 o2 m2 (p + 1) b2 (eC.reverse ++ Er) hs2 hi2 c2 σ2 f (by omega) (t4.r (hf7.tr j6)) (by omega) j3 j7 j8 (by omega) (by rw [List.length_append, List.length_reverse]; omega) (by omega)
        refine rdR.step j4 j5 (hf7.tr j6) (Nat.le_refl _) ?_
        by_cases y : m2 = 0
        · obtain ⟨y1, y2⟩ := j10 y
          rw [y1, y2]
          simp only [if_pos y] at i
          exact i
        · obtain ⟨y1, y2⟩ := j11 (by omega)
          rw [y1, y2]
          simp only [if_neg y] at i
          exact i
    · obtain rfl : m = 1 := by omega
      rw [if_neg (show ¬ nI 1 = 0 by decide)]
      simp only [show ¬ (1 = 0) by decide, if_false]
      -- a part
      have hold : ∀ (kh d c2 : Nat) (p2 : Nat) (ts2 : List (Nat × Int32)) (b2 : Nat) (σ2 : St), okW (kh, d) → dW ws + c = dw (kh, d) + dW ws + c2 → rst V σ2 p2 o 1 b ws Er hs hi c → p2 ≤ 47 → ws.length ≤ 46 → rFr σ σ2 → p2 + 1 + ts2.length = T → p + 1 ≤ p2 → ts2.length ≤ L → ts2.length < f → tkC V B σ (p2 + 1) b ts2 → ∃ σ3 : St, J_LineReader_hold N (nI kh) (nI (rk kh)) (nI d) σ2 = some σ3 ∧ rdR V B σ p b hs hi Er [] (J_LineReader_readExpressions_12 N f σ3) (addE [] (p2 - p) (run ts2 ((kh, d) :: ws) o 1)) := by
        intro kh d c2 p2 ts2 b2 σ2 g1 g2 g3 g4 g4' g5 g6 g7 g8 g9 g10
        obtain ⟨σ3, j1, j2, j3⟩ := rd_hold (N := N) (k := kh) (r := rk kh) (d := d) (c2 := c2) g3 (by omega) rfl g1 (by omega)
        have i := ih ts2 ((kh, d) :: ws) o 1 p2 b Er hs hi c2 σ3 f g8 (g10.r (g5.tr j3)) g6 j2 (by omega) ho (by omega) (by rw [List.length_cons]; omega) g9
        simp only [show ¬ (1 = 0) by decide, if_false] at i
        refine ⟨σ3, j1, rdR.step (eC := []) (pre2 := []) rfl rfl (g5.tr j3) (Nat.le_refl _) ?_⟩
        rw [show p + (p2 - p) = p2 by omega]
        exact i
      have leaf : ∀ (b2 : Nat) (σ2 : St), (k = 2 ∨ k = 3) → rst V σ2 (p + 1) o 1 b2 ws Er hs hi c → rFr σ σ2 → b ≤ b2 → b2 ≤ b + 1 → tkC V B σ (p + 1 + 1) b2 ts → ∃ σ3 : St, J_LineReader_emit N (nI k) (opC (k, v)) (nI 0) σ2 = some σ3 ∧ rdR V B σ p b hs hi Er [] (J_LineReader_readExpressions_12 N f σ3) (addE ((k, v) :: (unw 6 ws).1) 1 (run ts (unw 6 ws).2 o 0)) := by
        intro b2 σ2 g1 g2 g3 g4 g4' g5
        have ha : ar k = 0 := by unfold ar; rw [if_pos g1]
        have hh : hN k (hs, hi) = some (0 :: hs, max hi 1) := by unfold hN; rw [if_pos ha]
        have hl := g2.2.2.2.2.2.2.1
        obtain ⟨σ3, j1, j2, j3⟩ := g2.emit (N := N) (x := v) (c2 := c) hN1 (by omega) hh (by rw [List.length_cons]; omega)
        rw [ha] at j1
        have i := ih ts ws o 0 (p + 1) b2 ((k, v) :: Er) (0 :: hs) (max hi 1) c σ3 f (by omega) (g5.r (g3.tr j3)) (by omega) j2 (by omega) ho (by omega) (by rw [List.length_cons]; omega) (by omega)
        simp only [if_true] at i
        exact ⟨σ3, j1, rdR.step (eC := [(k, v)]) (pre2 := (unw 6 ws).1) (exH_one hh) rfl (g3.tr j3) g4 i⟩
      by_cases p1 : k = 2
      · subst p1
        rcases t3 with t3 | ⟨b2, t6, -, t5, t4⟩
        · exact absurd t3 (by decide)
        have t6 := t6 rfl
        have t5 := t5 (by decide)
        subst t5
        obtain ⟨σ3, j1, j2⟩ := leaf b2 σ1 (Or.inl rfl) hr2 hf7 (Nat.le_refl _) (by omega) t4
        have a4 : σ1.2 4 (p + 1) = v := by rw [← hσ1]; exact t6
        rw [J_LineReader_takePart, if_pos (show nI 2 = 2 from rfl), hr2.1, if_pos (pu_inB (by omega) (by decide)), nI_clamp (by omega), a4]
        rw [show opC (2, v) = v from rfl] at j1
        rw [show (2 : Int32) = nI 2 from rfl, show (0 : Int32) = nI 0 from rfl, j1, ax_bsV, ax_bs, if_neg (by decide), run_p1 (Or.inl rfl)]
        exact j2
      by_cases p2 : k = 3
      · subst p2
        rcases t3 with t3 | ⟨b2, -, t3, -, t4⟩
        · exact absurd t3 (by decide)
        have t3 := t3 rfl
        have a4 : σ1.2 4 (p + 1) = σ.2 4 (p + 1) := by rw [← hσ1]; rfl
        rw [← a4] at t3
        obtain ⟨σ2, f1, f2, f3, f4⟩ := pu_find (N := N) (by omega) hV (by omega) hr2.2.2.2.2.2.1 t3
        have hbb : b ≤ b2 ∧ b2 ≤ b + 1 := by
          obtain ⟨id, -, -, x, -⟩ := t3
          omega
        obtain ⟨s1, s2, s3, s4, s5, s6, s7, s8⟩ := hr2
        have hr3 : rst V σ2 (p + 1) o 1 b2 ws Er hs hi c := ⟨(f3 7 (by decide) (by decide)).trans s1, (f3 14 (by decide) (by decide)).trans s2, (f3 15 (by decide) (by decide)).trans s3, s4.cg (f3 13 (by decide) (by decide)) (f4 9 (by decide)) (f4 10 (by decide)) (f4 11 (by decide)), s5.cg (f3 10 (by decide) (by decide)) (f3 11 (by decide) (by decide)) (f3 12 (by decide) (by decide)) (f4 6 (by decide)) (f4 7 (by decide)) (f4 8 (by decide)), f2, s7, s8⟩
        have hfr : rFr σ1 σ2 := ⟨fun k hk => f3 k (by omega) (by omega), fun k hk => f4 k (by omega)⟩
        obtain ⟨σ3, j1, j2⟩ := leaf b2 σ2 (Or.inr rfl) hr3 (hf7.tr hfr) hbb.1 hbb.2 t4
        rw [J_LineReader_takePart, if_neg (by decide), if_pos (show nI 3 = 3 from rfl), s1, if_pos (pu_inB (by omega) (by decide)), nI_clamp (by omega), f1, ax_bs, show (3 : Int32) = nI 3 from rfl, show (0 : Int32) = nI 0 from rfl, j1, ax_bsV, ax_bs, if_neg (by decide), run_p1 (Or.inr rfl)]
        exact j2
      have hn2 : ¬ nI k = 2 := fun x => p1 ((kne (c := 2) hk (by decide)).mp x)
      have hn3 : ¬ nI k = 3 := fun x => p2 ((kne (c := 3) hk (by decide)).mp x)
      have hw46 : ws.length ≤ 46 := by omega
      have fin0 : k = 1 ∨ tkC V B σ (p + 1 + 1) b ts := by
        rcases t3 with t3 | ⟨b2, -, -, t3, t4⟩
        · exact Or.inl t3
        · have t3 := t3 p2
          subst t3
          exact Or.inr t4
      have sgn : ∀ (kh : Nat), rk kh = 6 ∨ kh = 40 → k ≠ 1 → J_LineReader_takePart N (nI k) σ1 = ax_bindV (J_LineReader_hold N (nI kh) (nI (rk kh)) 0 σ1) (fun σ4 => some (1, σ4)) → rdR V B σ p b hs hi Er [] (ax_bind (J_LineReader_takePart N (nI k) σ1) (fun r1 σ4 => if r1 = 0 then some (0, σ4) else J_LineReader_readExpressions_12 N f σ4)) (addE [] 1 (run ts ((kh, 0) :: ws) o 1)) := by
        intro kh g1 g2 g3
        have t4 : tkC V B σ (p + 1 + 1) b ts := fin0.resolve_left g2
        have hd : dw (kh, 0) = 0 := by
          rcases g1 with x | x
          · rw [dw_op (by omega), if_pos x]
          · rw [x]; decide
        have hokk : okW (kh, 0) := by
          rcases g1 with x | x
          · exact okW_op (by omega)
          · exact Or.inr (Or.inl ⟨x, rfl⟩)
        obtain ⟨σ3, j1, j2⟩ := hold kh 0 c (p + 1) ts b σ1 hokk (by omega) hr2 (by omega) hw46 hf7 (by omega) (by omega) (by omega) (by omega) t4
        rw [show nI 0 = (0 : Int32) from rfl] at j1
        rw [g3, j1, ax_bsV, ax_bs, if_neg (by decide)]
        rw [show p + 1 - p = 1 by omega] at j2
        exact j2
      by_cases p3 : k = 33
      · subst p3
        rw [run_p3 (Or.inl rfl)]
        refine sgn 33 (Or.inl (by decide)) (by decide) ?_
        rw [J_LineReader_takePart, if_neg hn2, if_neg hn3, if_pos (show nI 33 = 33 from rfl)]
        rfl
      have hn33 : ¬ nI k = 33 := fun x => p3 ((kne (c := 33) hk (by decide)).mp x)
      by_cases p4 : k = 40
      · subst p4
        rw [run_p3 (Or.inr (Or.inr rfl))]
        refine sgn 40 (Or.inr rfl) (by decide) ?_
        rw [J_LineReader_takePart, if_neg hn2, if_neg hn3, if_neg hn33, if_pos (show nI 40 = 40 from rfl)]
        rfl
      have hn40 : ¬ nI k = 40 := fun x => p4 ((kne (c := 40) hk (by decide)).mp x)
      by_cases p5 : k = 45
      · subst p5
        rw [run_p2]
        refine sgn 21 (Or.inl (by decide)) (by decide) ?_
        rw [J_LineReader_takePart, if_neg hn2, if_neg hn3, if_neg hn33, if_neg hn40, if_pos (show nI 45 = 45 from rfl)]
        rfl
      have hn45 : ¬ nI k = 45 := fun x => p5 ((kne (c := 45) hk (by decide)).mp x)
      by_cases p6 : k = 64
      · subst p6
        rw [run_p3 (Or.inr (Or.inl rfl))]
        refine sgn 64 (Or.inl (by decide)) (by decide) ?_
        rw [J_LineReader_takePart, if_neg hn2, if_neg hn3, if_neg hn33, if_neg hn40, if_neg hn45, if_pos (show nI 64 = 64 from rfl)]
        rfl
      have hn64 : ¬ nI k = 64 := fun x => p6 ((kne (c := 64) hk (by decide)).mp x)
      rw [J_LineReader_takePart, if_neg hn2, if_neg hn3, if_neg hn33, if_neg hn40, if_neg hn45, if_neg hn64, pu_isb hk, ax_bs]
      by_cases p7 : ¬ (13 ≤ k ∧ k ≤ 20)
      · rw [if_neg p7, if_pos rfl, ax_bs, if_pos rfl, run_p6 (by omega) p5 (by omega) p7]
        exact ⟨σ1, b, rfl, hr2.1, hf7, hr2.2.2.2.2.2.1, Nat.le_refl _⟩
      have p7 := Decidable.not_not.mp p7
      have t4 : tkC V B σ (p + 1 + 1) b ts := fin0.resolve_left (by omega)
      have hpt := pt_le k
      obtain ⟨f1, -, -⟩ := tP_fn k p7.2 p7.1
      rw [if_pos p7, if_neg (by decide), J_LineReader_takeBuiltIn, hr2.1, nI_1, ax_let, show (sF σ1 7 (nI (p + 1 + 1))).1 7 = nI (p + 1 + 1) from rfl, if_pos (pu_inB (by omega) (by decide)), nI_clamp (by omega), show (sF σ1 7 (nI (p + 1 + 1))).2 2 (p + 1 + 1) = σ.2 2 (p + 1 + 1) by rw [← hσ1]; rfl]
      have hr3 : rst V (sF σ1 7 (nI (p + 1 + 1))) (p + 1 + 1) o 1 b ws Er hs hi c := hr2.at
      have hf8 : rFr σ (sF σ1 7 (nI (p + 1 + 1))) := hf7.tr (rFr.f _ 7 _ (by omega))
      cases ts with
      | nil =>
        rw [t4.2, if_neg (by decide), ax_bs, if_pos rfl, ax_bs, if_pos rfl, run_p4 p7]
        exact ⟨_, b, rfl, rfl, hf8, hr3.2.2.2.2.2.1, Nat.le_refl _⟩
      | cons t5 ts2 =>
        obtain ⟨k2, v2⟩ := t5
        obtain ⟨s1, s2, s3⟩ := t4
        have s1 : okk k2 = true := s1
        have s2 : σ.2 2 (p + 1 + 1) = nI k2 := s2
        rw [s2, run_p5 p7]
        simp only [List.length_cons] at hL hp hf hlen
        by_cases y : k2 = 40
        · subst y
          rcases s3 with s3 | ⟨b2, -, -, s3, s4⟩
          · exact absurd (show 40 = 1 from s3) (by decide)
          have s3 := s3 (show ¬ 40 = 3 by decide)
          subst s3
          have hd : dw (k, pt k - 1) = 0 := by
            rw [dw_br (rk_fn p7.1 p7.2), if_neg p4]
            omega
          obtain ⟨σ3, j1, j2⟩ := hold k (pt k - 1) c (p + 1 + 1) ts2 b2 (sF σ1 7 (nI (p + 1 + 1))) (Or.inr (Or.inr ⟨p7.1, p7.2, by show pt k - 1 + 1 ≤ pt k; omega⟩)) (by omega) hr3 (by omega) hw46 hf8 (by omega) (by omega) (by omega) (by omega) s4
          rw [rk_fn p7.1 p7.2] at j1
          rw [if_pos (show nI 40 = 40 from rfl), if_pos rfl, show (4 : Int32) = nI 4 from rfl, pk_sub (by omega), if_pos (pu_inB (by omega) (by decide)), nI_clamp (by omega), f1, show (1 : Int32) = nI 1 from rfl, pk_sub (by omega), show (0 : Int32) = nI 0 from rfl, j1, ax_bsV, ax_bs, if_neg (by decide), ax_bs, if_neg (by decide)]
          rw [show p + 1 + 1 - p = 2 by omega] at j2
          exact j2
        · rw [if_neg (show ¬ nI k2 = 40 from fun x => y ((kne (c := 40) (okk_lt s1) (by decide)).mp x)), ax_bs, if_pos rfl, ax_bs, if_pos rfl, if_neg y]
          exact ⟨_, b, rfl, rfl, hf8, hr3.2.2.2.2.2.1, Nat.le_refl _⟩
