/-! PURE ROWS 21: the reference closes a bracket; how a working out ends. -/
def pFr (τ τ2 : St) : Prop := (∀ k, k ≠ 5 → k ≠ 8 → k ≠ 9 → k ≠ 12 → τ2.1 k = τ.1 k) ∧ ∀ k, k ≠ 12 → k ≠ 13 → k ≠ 14 → τ2.2 k = τ.2 k
theorem oFr.p {τ τ2 : St} (h : oFr τ τ2) : pFr τ τ2 := ⟨fun k _ a b c => h.1 k a b c, h.2⟩
theorem pFr.tr {a b c : St} (h : pFr a b) (h2 : pFr b c) : pFr a c := ⟨fun k x y z u => (h2.1 k x y z u).trans (h.1 k x y z u), fun k x y z => (h2.2 k x y z).trans (h.2 k x y z)⟩
theorem envIs.p {τ τ2 : St} {A : Nat → Nat → Int32} (h : envIs τ A) (hf : pFr τ τ2) : envIs τ2 A := ⟨(hf.2 7 (by decide) (by decide) (by decide)).trans h.1, (hf.2 9 (by decide) (by decide) (by decide)).trans h.2.1, (hf.2 10 (by decide) (by decide) (by decide)).trans h.2.2.1, (hf.2 11 (by decide) (by decide) (by decide)).trans h.2.2.2⟩
theorem pu_close0 {N n : Nat} {l2 x : Int32} {A : Nat → Nat → Int32} {τ : St} {ws : List (Nat × Nat)} {s : List Int32} {hs : List Nat} {hi h : Nat} (hN1 : 100 ≤ N) (hA : envIs τ A) (hm : mst τ ws (x :: s) (h :: hs) hi) (h58 : s.length ≤ 57) (ha : allW ws) (hb : bd (h :: hs) hi (n + ws.length)) :
    ∃ (τ2 : St) (s2 : List Int32) (hs2 : List Nat) (hi2 : Nat), J_Mod_close N 0 l2 τ = some τ2 ∧ mst τ2 (unw 6 ws).2 s2 hs2 hi2 ∧ s2.length = s.length + 1 ∧ bd hs2 hi2 (n + (unw 6 ws).2.length) ∧ (∀ rl sd, xv rl A (unw 6 ws).1 (x :: s) sd s2 sd) ∧ xh (unw 6 ws).1 (h :: hs) hi hs2 hi2 ∧ oFr τ τ2 := by
  obtain ⟨m1, m2, m3, m4, m5, m6, m7⟩ := hm
  simp only [List.length_cons] at m3 m5
  have hh := hb.2 h (by simp)
  have hib : inB (nI s.length) 60 = true := pu_inB (by omega) (by decide)
  have f0 : oFr τ (sF τ 8 (nI s.length)) := ⟨fun k k1 _ _ => if_neg k1, fun _ _ _ _ => rfl⟩
  have e13 : (sF τ 8 (nI s.length)).2 13 s.length = nI (h + 1) := by
    have : hs.length = s.length := by omega
    rw [← this]
    exact m6.1
  have st : J_Mod_close N 0 l2 τ = ax_bindV (J_Mod_put N x (nI (h + 1)) (sF τ 8 (nI s.length))) (fun σ2 => some σ2) := by
    rw [J_Mod_close, m3, nI_pred, ax_let, show (sF τ 8 (nI s.length)).1 8 = nI s.length from rfl, if_pos hib, nI_clamp (by omega), show (sF τ 8 (nI s.length)).2 12 s.length = x from m4.1, ax_let, if_pos hib, e13, ax_let, if_pos rfl]
  obtain ⟨τ2, s2, hs2, hi2, g1, g2, g3, g4, g5, g6, g7⟩ := pu_put (N := N) (n := n) (v := x) (h := h) (τ := sF τ 8 (nI s.length)) (s := s) (hs := hs) (hi := hi) (ws := ws) hN1 (hA.o f0) ⟨m1, m2, rfl, m4.2, by omega, m6.2, m7⟩ h58 ha hb.tl (by omega)
  rw [show max hi (h + 1) = hi by omega] at g6
  exact ⟨τ2, s2, hs2, hi2, by rw [st, g1, ax_bsV], g2, g3, g4, g5, g6, f0.tr g7⟩
theorem kM_f4 : ∀ k, k ≤ 20 → 13 ≤ k → ¬ nI (kM k) = 0 ∧ kM k = k + 7 ∧ cMn k = 507 + k ∧ ¬ k = 2 ∧ ¬ k = 3 ∧ ¬ k = 21 ∧ ¬ k = 33 ∧ ¬ k = 64 := by decide
theorem pt_cases {k : Nat} : (pt k = 2 ∧ (k = 17 ∨ k = 18 ∨ k = 19)) ∨ (pt k = 1 ∧ ¬ k = 17 ∧ ¬ k = 18 ∧ ¬ k = 19) := by
  unfold pt
  split <;> omega
/-- the value is there: it is put -/
theorem pu_c112 {N n k rl : Nat} {A : Nat → Nat → Int32} {τ : St} {ws : List (Nat × Nat)} {s : List Int32} {hs : List Nat} {hi h : Nat} {x y : Int32} (hN1 : 100 ≤ N) (hrl : rl ≤ 1) (h1 : 13 ≤ k) (h2 : k ≤ 20) (hA : envIs τ A) (hm : mst τ ws s hs hi) (h58 : s.length ≤ 57) (ha : allW ws) (hb : bd hs hi (n + ws.length)) (hh : h + 2 + (n + ws.length) ≤ 60) :
    ∃ (τ2 : St) (s2 : List Int32) (hs2 : List Nat) (hi2 : Nat) (v sd2 : Int32), J_Mod_close_112 N (nI (kM k)) (nI rl) x (nI (h + 1)) y τ = some τ2 ∧ mst τ2 (unw 6 ws).2 s2 hs2 hi2 ∧ s2.length = s.length + 1 ∧ bd hs2 hi2 (n + (unw 6 ws).2.length) ∧ xv rl A (unw 6 ws).1 (v :: s) sd2 s2 sd2 ∧ xh (unw 6 ws).1 ((h + 1) :: hs) (max hi (h + 2)) hs2 hi2 ∧ pFr τ τ2 ∧ τ2.1 5 = sd2 ∧ (pt k = 1 → o1 rl A k x (τ.1 5) = (v, sd2)) ∧ (pt k = 2 → o2 rl A k x y = v ∧ sd2 = τ.1 5) := by
  obtain ⟨e1, e2, e3, e4, e5, e6, e7, e8⟩ := kM_f4 k h2 h1
  by_cases q : rl = 0
  · subst q
    obtain ⟨τ2, s2, hs2, hi2, g1, g2, g3, g4, g5, g6, g7⟩ := pu_put (N := N) (n := n) (v := 0) (h := h + 1) hN1 hA hm h58 ha hb (by omega)
    refine ⟨τ2, s2, hs2, hi2, 0, τ.1 5, ?_, g2, g3, g4, g5 _ _, g6, g7.p, g7.1 5 (by decide) (by decide) (by decide), fun _ => ?_, fun _ => ⟨?_, rfl⟩⟩
    · rw [J_Mod_close_112, if_pos (show nI 0 = 0 from rfl), nI_1, g1, ax_bsV]
    · unfold o1
      rw [if_neg e6, if_neg e7, if_neg e8, if_pos rfl]
    · unfold o2
      rw [if_pos ⟨h1, h2⟩, if_pos rfl]
  · obtain rfl : rl = 1 := by omega
    rcases pt_cases (k := k) with ⟨p1, -⟩ | ⟨p1, -⟩
    · obtain ⟨τ2, s2, hs2, hi2, g1, g2, g3, g4, g5, g6, g7⟩ := pu_put (N := N) (n := n) (v := o2 1 A k x y) (h := h + 1) hN1 hA hm h58 ha hb (by omega)
      refine ⟨τ2, s2, hs2, hi2, _, τ.1 5, ?_, g2, g3, g4, g5 _ _, g6, g7.p, g7.1 5 (by decide) (by decide) (by decide), fun z => by omega, fun _ => ⟨rfl, rfl⟩⟩
      rw [J_Mod_close_112, if_neg (by decide), pu_bi2 h1 h2 p1, ax_bs, nI_1, o2_env hA, g1, ax_bsV]
    · have f0 : pFr τ (sF τ 5 (o1 1 A k x (τ.1 5)).2) := ⟨fun k k1 _ _ _ => if_neg k1, fun _ _ _ _ => rfl⟩
      have hm1 : mst (sF τ 5 (o1 1 A k x (τ.1 5)).2) ws s hs hi := hm
      obtain ⟨τ2, s2, hs2, hi2, g1, g2, g3, g4, g5, g6, g7⟩ := pu_put (N := N) (n := n) (v := (o1 1 A k x (τ.1 5)).1) (h := h + 1) hN1 (hA.p f0) hm1 h58 ha hb (by omega)
      refine ⟨τ2, s2, hs2, hi2, _, (o1 1 A k x (τ.1 5)).2, ?_, g2, g3, g4, g5 _ _, g6, f0.tr g7.p, (g7.1 5 (by decide) (by decide) (by decide)).trans rfl, fun _ => rfl, fun z => by omega⟩
      rw [J_Mod_close_112, if_neg (by decide), pu_bi1 h1 h2 p1, ax_bs, nI_1, o1_env hA, g1, ax_bsV]
theorem pu_closeF {N n k rl r : Nat} {A : Nat → Nat → Int32} {τ : St} {ws : List (Nat × Nat)} {s : List Int32} {hs : List Nat} {hi : Nat} (hN1 : 100 ≤ N) (hrl : rl ≤ 1) (h1 : 13 ≤ k) (h2 : k ≤ 20) (hA : envIs τ A) (hm : mst τ ws s hs hi) (hl : s.length = pt k + r) (h58 : s.length ≤ 57) (ha : allW ws) (hb : bd hs hi (n + 1 + ws.length)) :
    ∃ (τ2 : St) (s2 : List Int32) (hs2 : List Nat) (hi2 : Nat), J_Mod_close N (nI (kM k)) (nI rl) τ = some τ2 ∧ mst τ2 (unw 6 ws).2 s2 hs2 hi2 ∧ s2.length = r + 1 ∧ bd hs2 hi2 (n + (unw 6 ws).2.length) ∧ xv rl A ((k, 0) :: (unw 6 ws).1) s (τ.1 5) s2 (τ2.1 5) ∧ xh ((k, 0) :: (unw 6 ws).1) hs hi hs2 hi2 ∧ pFr τ τ2 := by
  obtain ⟨e1, e2, e3, e4, e5, e6, e7, e8⟩ := kM_f4 k h2 h1
  obtain ⟨-, ha2, hok⟩ := tP_fn k h2 h1
  obtain ⟨a11, a12, a13, -, -⟩ := kM_f3 k (by omega) hok
  obtain ⟨m1, m2, m3, m4, m5, m6, m7⟩ := hm
  rcases pt_cases (k := k) with ⟨p1, pk⟩ | ⟨p1, pk1, pk2, pk3⟩
  · -- two parts
    cases s with
    | nil => simp only [List.length_nil] at hl; omega
    | cons y s =>
    cases s with
    | nil => simp only [List.length_nil, List.length_cons] at hl; omega
    | cons x s =>
    cases hs with
    | nil => simp only [List.length_nil, List.length_cons] at m5; omega
    | cons hy hs =>
    cases hs with
    | nil => simp only [List.length_nil, List.length_cons] at m5; omega
    | cons hx hs =>
    simp only [List.length_cons] at m3 m5 hl h58
    have b1 := hb.2 hy (by simp)
    have b2 := hb.2 hx (by simp)
    have hls : hs.length = s.length := by omega
    have hib : inB (nI (s.length + 1)) 60 = true := pu_inB (by omega) (by decide)
    have hib0 : inB (nI s.length) 60 = true := pu_inB (by omega) (by decide)
    have e13y : (sF τ 8 (nI (s.length + 1))).2 13 (s.length + 1) = nI (hy + 1) := by rw [← hls]; exact m6.1
    have e13x : (sF (sF τ 8 (nI (s.length + 1))) 8 (nI s.length)).2 13 s.length = nI (hx + 1) := by rw [← hls]; exact m6.2.1
    have f0 : pFr τ (sF (sF τ 8 (nI (s.length + 1))) 8 (nI s.length)) := ⟨fun k _ k2 _ _ => by show upd (upd τ.1 8 _) 8 _ k = _; rw [pk_un k2, pk_un k2], fun _ _ _ _ => rfl⟩
    have st : J_Mod_close N (nI (kM k)) (nI rl) τ = J_Mod_close_112 N (nI (kM k)) (nI rl) x (nI (max hx hy + 1)) y (sF (sF τ 8 (nI (s.length + 1))) 8 (nI s.length)) := by
      have s64 : J_Mod_close N (nI (kM k)) (nI rl) τ = J_Mod_close_64 N (nI (kM k)) (nI rl) y (nI (hy + 1)) (sF τ 8 (nI (s.length + 1))) := by
        rw [J_Mod_close, m3, nI_pred, ax_let, show (sF τ 8 (nI (s.length + 1))).1 8 = nI (s.length + 1) from rfl, if_pos hib, nI_clamp (by omega), show (sF τ 8 (nI (s.length + 1))).2 12 (s.length + 1) = y from m4.1, ax_let, if_pos hib, e13y, ax_let, if_neg e1]
        by_cases z1 : k = 17
        · rw [if_pos (a11.mpr z1)]
        rw [if_neg (fun x => z1 (a11.mp x))]
        by_cases z2 : k = 18
        · rw [if_pos (a12.mpr z2)]
        rw [if_neg (fun x => z2 (a12.mp x)), if_pos (a13.mpr (by omega))]
      rw [s64, J_Mod_close_64, show (sF τ 8 (nI (s.length + 1))).1 8 = nI (s.length + 1) from rfl, nI_pred, ax_let, show (sF (sF τ 8 (nI (s.length + 1))) 8 (nI s.length)).1 8 = nI s.length from rfl, if_pos hib0, nI_clamp (by omega), show (sF (sF τ 8 (nI (s.length + 1))) 8 (nI s.length)).2 12 s.length = x from m4.2.1, ax_let, if_pos hib0, e13x, if_pos hib0, ax_let]
      by_cases z : hx ≤ hy
      · rw [if_pos (show nI (hx + 1) ≤ nI (hy + 1) from nI_le (by omega) (by omega)), show max hx hy = hy by omega]
      · rw [if_neg (show ¬ nI (hx + 1) ≤ nI (hy + 1) from nI_ge (by omega) (by omega)), show max hx hy = hx by omega]
    obtain ⟨τ2, s2, hs2, hi2, v, sd2, g1, g2, g3, g4, g5, g6, g7, g8, -, g10⟩ := pu_c112 (N := N) (n := n) (k := k) (rl := rl) (x := x) (y := y) (h := max hx hy) (τ := sF (sF τ 8 (nI (s.length + 1))) 8 (nI s.length)) (s := s) (hs := hs) (hi := hi) (ws := ws) hN1 hrl h1 h2 (hA.p f0) ⟨m1, m2, rfl, m4.2.2, hls, m6.2.2, m7⟩ (by omega) ha (hb.tl.tl.mono (by omega)) (by omega)
    obtain ⟨v1, v2⟩ := g10 p1
    have v2 : sd2 = τ.1 5 := v2
    refine ⟨τ2, s2, hs2, hi2, st.trans g1, g2, by omega, g4, ?_, ?_, f0.tr g7⟩
    · rw [g8]
      refine xv.tr (X := [(k, 0)]) (s2 := v :: s) (d2 := sd2) (xv.one (fun sb => ?_)) g5
      show vN rl A (k, 0) (y :: x :: (s ++ sb), τ.1 5) = some (v :: (s ++ sb), sd2)
      unfold vN
      rw [if_neg e4, if_neg e5, if_neg (show ¬ ar (k, (0 : Int32)).1 = 1 by show ¬ ar k = 1; omega), v2, ← v1]
    · refine xh.tr (X := [(k, 0)]) (s2 := (max hx hy + 1) :: hs) (d2 := max hi (max hx hy + 2)) (xh.one (fun sb => ?_)) g6
      show hN k (hy :: hx :: (hs ++ sb), hi) = some ((max hx hy + 1) :: (hs ++ sb), _)
      unfold hN
      rw [if_neg (by omega), if_neg (by omega)]
  · -- one part
    cases s with
    | nil => simp only [List.length_nil] at hl; omega
    | cons x s =>
    cases hs with
    | nil => simp only [List.length_nil, List.length_cons] at m5; omega
    | cons hx hs =>
    simp only [List.length_cons] at m3 m5 hl h58
    have b2 := hb.2 hx (by simp)
    have hls : hs.length = s.length := by omega
    have hib0 : inB (nI s.length) 60 = true := pu_inB (by omega) (by decide)
    have e13x : (sF τ 8 (nI s.length)).2 13 s.length = nI (hx + 1) := by rw [← hls]; exact m6.1
    have f0 : pFr τ (sF τ 8 (nI s.length)) := ⟨fun k _ k2 _ _ => if_neg k2, fun _ _ _ _ => rfl⟩
    have st : J_Mod_close N (nI (kM k)) (nI rl) τ = J_Mod_close_112 N (nI (kM k)) (nI rl) x (nI (hx + 1)) 0 (sF τ 8 (nI s.length)) := by
      rw [J_Mod_close, m3, nI_pred, ax_let, show (sF τ 8 (nI s.length)).1 8 = nI s.length from rfl, if_pos hib0, nI_clamp (by omega), show (sF τ 8 (nI s.length)).2 12 s.length = x from m4.1, ax_let, if_pos hib0, e13x, ax_let, if_neg e1, if_neg (fun x => pk1 (a11.mp x)), if_neg (fun x => pk2 (a12.mp x)), if_neg (fun x => pk3 (a13.mp x))]
    obtain ⟨τ2, s2, hs2, hi2, v, sd2, g1, g2, g3, g4, g5, g6, g7, g8, g9, -⟩ := pu_c112 (N := N) (n := n) (k := k) (rl := rl) (x := x) (y := 0) (h := hx) (τ := sF τ 8 (nI s.length)) (s := s) (hs := hs) (hi := hi) (ws := ws) hN1 hrl h1 h2 (hA.p f0) ⟨m1, m2, rfl, m4.2, hls, m6.2, m7⟩ (by omega) ha (hb.tl.mono (by omega)) (by omega)
    have v1 : o1 rl A k x (τ.1 5) = (v, sd2) := g9 p1
    refine ⟨τ2, s2, hs2, hi2, st.trans g1, g2, by omega, g4, ?_, ?_, f0.tr g7⟩
    · rw [g8]
      refine xv.tr (X := [(k, 0)]) (s2 := v :: s) (d2 := sd2) (xv.one (fun sb => ?_)) g5
      show vN rl A (k, 0) (x :: (s ++ sb), τ.1 5) = some (v :: (s ++ sb), sd2)
      unfold vN
      rw [if_neg e4, if_neg e5, if_pos (show ar (k, (0 : Int32)).1 = 1 by show ar k = 1; omega)]
      show some ((o1 rl A k x (τ.1 5)).1 :: (s ++ sb), (o1 rl A k x (τ.1 5)).2) = _
      rw [v1]
    · refine xh.tr (X := [(k, 0)]) (s2 := (hx + 1) :: hs) (d2 := max hi (hx + 2)) (xh.one (fun sb => ?_)) g6
      show hN k (hx :: (hs ++ sb), hi) = some ((hx + 1) :: (hs ++ sb), _)
      unfold hN
      rw [if_neg (by omega), if_pos (by omega)]
def nb : List (Nat × Nat) → Nat
  | [] => 0
  | w :: ws => (if rk w.1 = 0 then 1 else 0) + nb ws
def np : List (Nat × Nat) → Nat
  | [] => 0
  | w :: ws => (if w.1 = 40 then 0 else 1) + np ws
theorem unw_nb {r : Nat} (h : 1 ≤ r) : ∀ ws, nb (unw r ws).2 = nb ws := by
  intro ws
  induction ws with
  | nil => rfl
  | cons w ws ih =>
    unfold unw
    split
    · rw [ih, nb, if_neg (by omega)]
      omega
    · rfl
theorem unw_np {r : Nat} (h : 1 ≤ r) : ∀ ws, (unw r ws).1.length + np (unw r ws).2 = np ws := by
  intro ws
  induction ws with
  | nil => rfl
  | cons w ws ih =>
    unfold unw
    split
    · rename_i q
      show ((w.1, (0 : Int32)) :: (unw r ws).1).length + np (unw r ws).2 = (if w.1 = 40 then 0 else 1) + np ws
      rw [if_neg (fun x => by rw [x, rk_40] at q; omega), List.length_cons]
      omega
    · simp only [List.length_nil]
      omega
theorem nb_le : ∀ ws, nb ws ≤ ws.length := by
  intro ws
  induction ws with
  | nil => exact Nat.le_refl _
  | cons w ws ih =>
    rw [nb, List.length_cons]
    split <;> omega
def mFr (τ τ2 : St) : Prop := (∀ k, k ≠ 5 → k ≠ 8 → k ≠ 9 → k ≠ 10 → k ≠ 11 → k ≠ 12 → τ2.1 k = τ.1 k) ∧ ∀ k, k ≠ 12 → k ≠ 13 → k ≠ 14 → τ2.2 k = τ.2 k
theorem pFr.m {τ τ2 : St} (h : pFr τ τ2) : mFr τ τ2 := ⟨fun k a b c _ _ d => h.1 k a b c d, h.2⟩
theorem mFr.tr {a b c : St} (h : mFr a b) (h2 : mFr b c) : mFr a c := ⟨fun k x y z u v w => (h2.1 k x y z u v w).trans (h.1 k x y z u v w), fun k x y z => (h2.2 k x y z).trans (h.2 k x y z)⟩
def nmO : List (Nat × Int32) → Prop
  | [] => True
  | t :: ts => (t.1 = 3 → ∃ id : Nat, id < 64 ∧ t.2 = nI id) ∧ nmO ts
def wkR (rl : Nat) (A : Nat → Nat → Int32) (τ : St) (en o : Nat) (s : List Int32) (hs : List Nat) (hi n0 : Nat) (J : Option (Int32 × St)) (E : List (Nat × Int32)) : Prop :=
  ∃ (E1 E2 : List (Nat × Int32)) (q : Nat) (τ2 : St) (v : Int32) (h2 hi2 j : Nat), J = some (v, τ2) ∧ E = E1 ++ E2 ∧ xv rl A E1 s (τ.1 5) [v] (τ2.1 5) ∧ xh E1 hs hi [h2] hi2 ∧ E1.length = n0 + j ∧ τ2.1 11 = τ.1 11 + nI j ∧ τ2.1 12 = nI hi2 ∧ hi2 ≤ 60 ∧ τ2.1 10 = nI q ∧ mFr τ τ2 ∧
    ((q = en ∧ E2 = [] ∧ o = 0) ∨ ∃ ts2 : List (Nat × Int32), 1 ≤ o ∧ q + 1 + ts2.length = en ∧ tkM τ (q + 1) ts2 ∧ nmO ts2 ∧ run ts2 [] (o - 1) 1 = Sum.inr E2 ∧ ts2.length ≤ 54)
theorem wkR.step {rl en o a n0 n1 hi hi1 : Nat} {A : Nat → Nat → Int32} {τ τ1 : St} {s s1 : List Int32} {hs hs1 : List Nat} {J : Option (Int32 × St)} {e E : List (Nat × Int32)} (hx : xv rl A e s (τ.1 5) s1 (τ1.1 5)) (hh : xh e hs hi hs1 hi1) (hn : e.length + n1 = n0 + a) (hc : τ1.1 11 = τ.1 11 + nI a) (hf : mFr τ τ1) (h : wkR rl A τ1 en o s1 hs1 hi1 n1 J E) : wkR rl A τ en o s hs hi n0 J (e ++ E) := by
  obtain ⟨E1, E2, q, τ2, v, h2, hi2, j, g1, g2, g3, g4, g5, g6, g7, g8, g9, g10, g11⟩ := h
  refine ⟨e ++ E1, E2, q, τ2, v, h2, hi2, a + j, g1, by rw [g2, List.append_assoc], hx.tr g3, hh.tr g4, by rw [List.length_append]; omega, ?_, g7, g8, g9, hf.tr g10, ?_⟩
  · rw [g6, hc, Int32.add_assoc, nI_add]
  · rcases g11 with z | ⟨ts2, z1, z2, z3, z4, z5⟩
    · exact Or.inl z
    · exact Or.inr ⟨ts2, z1, z2, tkM.cg (hf.2 1 (by decide) (by decide) (by decide)).symm (hf.2 2 (by decide) (by decide) (by decide)).symm z3, z4, z5⟩
theorem addE_inr {e : List (Nat × Int32)} {c : Nat} {x : Nat ⊕ List (Nat × Int32)} {E : List (Nat × Int32)} (h : addE e c x = Sum.inr E) : ∃ E2, x = Sum.inr E2 ∧ E = e ++ E2 := by
  cases x with
  | inl i => exact absurd h (by unfold addE; simp)
  | inr E2 => exact ⟨E2, rfl, by unfold addE at h; simp only [Sum.inr.injEq] at h; exact h.symm⟩
