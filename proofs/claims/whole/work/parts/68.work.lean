/-! PURE ROWS 19: the reference's stacks. -/
def cMn (k : Nat) : Nat := if rk k = 6 then (if k = 21 then 1045 else 1000 + k) else if k = 40 then 500 else if 13 ≤ k ∧ k ≤ 20 then 507 + k else k
def mst (τ : St) (ws : List (Nat × Nat)) (s : List Int32) (hs : List Nat) (hi : Nat) : Prop := τ.1 9 = nI ws.length ∧ sIs (fun w => nI (cMn w.1)) (τ.2 14) ws ∧ τ.1 8 = nI s.length ∧ sIs id (τ.2 12) s ∧ hs.length = s.length ∧ sIs (fun h => nI (h + 1)) (τ.2 13) hs ∧ τ.1 12 = nI hi
def envIs (τ : St) (A : Nat → Nat → Int32) : Prop := τ.2 7 = A 7 ∧ τ.2 9 = A 9 ∧ τ.2 10 = A 10 ∧ τ.2 11 = A 11
/-- what working out an operator leaves as it is -/
def oFr (τ τ2 : St) : Prop := (∀ k, k ≠ 8 → k ≠ 9 → k ≠ 12 → τ2.1 k = τ.1 k) ∧ ∀ k, k ≠ 12 → k ≠ 13 → k ≠ 14 → τ2.2 k = τ.2 k
theorem oFr.rf (τ : St) : oFr τ τ := ⟨fun _ _ _ _ => rfl, fun _ _ _ _ => rfl⟩
theorem oFr.tr {a b c : St} (h : oFr a b) (h2 : oFr b c) : oFr a c := ⟨fun k x y z => (h2.1 k x y z).trans (h.1 k x y z), fun k x y z => (h2.2 k x y z).trans (h.2 k x y z)⟩
theorem envIs.o {τ τ2 : St} {A : Nat → Nat → Int32} (h : envIs τ A) (hf : oFr τ τ2) : envIs τ2 A := ⟨(hf.2 7 (by decide) (by decide) (by decide)).trans h.1, (hf.2 9 (by decide) (by decide) (by decide)).trans h.2.1, (hf.2 10 (by decide) (by decide) (by decide)).trans h.2.2.1, (hf.2 11 (by decide) (by decide) (by decide)).trans h.2.2.2⟩
theorem o1_env {τ : St} {A : Nat → Nat → Int32} (h : envIs τ A) {rl k : Nat} {x sd : Int32} : o1 rl τ.2 k x sd = o1 rl A k x sd := by
  unfold o1
  rw [h.2.1, h.2.2.2]
theorem o2_env {τ : St} {A : Nat → Nat → Int32} (h : envIs τ A) {rl k : Nat} {x y : Int32} : o2 rl τ.2 k x y = o2 rl A k x y := by
  unfold o2
  rw [h.2.2.1]
def bd (hs : List Nat) (hi n : Nat) : Prop := hi ≤ 60 ∧ ∀ h, h ∈ hs → h + 1 ≤ hi ∧ h + 1 + n ≤ 60
theorem bd.mono {hs : List Nat} {hi n n2 : Nat} (h : bd hs hi n) (hn : n2 ≤ n) : bd hs hi n2 := ⟨h.1, fun x hx => ⟨(h.2 x hx).1, by have := (h.2 x hx).2; omega⟩⟩
theorem bd.push {hs : List Nat} {hi n h : Nat} (hb : bd hs hi n) (hh : h + 1 + n ≤ 60) : bd (h :: hs) (max hi (h + 1)) n := by
  refine ⟨?_, fun x hx => ?_⟩
  · have := hb.1
    omega
  · rcases List.mem_cons.mp hx with rfl | hx
    · omega
    · have := hb.2 x hx
      omega
theorem bd.tl {hs : List Nat} {hi n h : Nat} (hb : bd (h :: hs) hi n) : bd hs hi n := ⟨hb.1, fun x hx => hb.2 x (List.mem_cons_of_mem _ hx)⟩
def o79 (τ : St) (l : Nat) (r : Int32) (h hi : Nat) : St := sF (sA (sA τ 12 l r) 13 l (nI (h + 2))) 12 (nI (max hi (h + 2)))
theorem o79_fr (τ : St) (l : Nat) (r : Int32) (h hi : Nat) : oFr τ (o79 τ l r h hi) := ⟨fun k _ _ z => if_neg z, fun k x y _ => by
  show (sA (sA τ 12 l r) 13 l (nI (h + 2))).2 k = _
  rw [sA_ne _ _ _ y, sA_ne _ _ _ x]⟩
theorem pu_79 {N l h hi : Nat} {r : Int32} {τ : St} (h8 : τ.1 8 = nI (l + 1)) (hl : l < 60) (h13 : τ.2 13 l = nI (h + 1)) (h12 : τ.1 12 = nI hi) (hh : h < 1000) (hhi : hi < 1000) : J_Mod_one_79 N r τ = some (o79 τ l r h hi) := by
  have hib : inB (nI l) 60 = true := pu_inB hl (by decide)
  have e13 : (sA τ 12 l r).2 13 l = nI (h + 1) := by rw [sA_ne _ _ _ (by decide)]; exact h13
  rw [J_Mod_one_79, h8, nI_pred, if_pos hib, nI_clamp (by omega), ax_let, show (sA τ 12 l r).1 8 = nI (l + 1) from h8, nI_pred, if_pos hib, if_pos hib, nI_clamp (by omega), e13, nI_1, ax_let, show (sA (sA τ 12 l r) 13 l (nI (h + 1 + 1))).1 8 = nI (l + 1) from h8, nI_pred, if_pos hib, nI_clamp (by omega), sA_self, pk_us, show (sA (sA τ 12 l r) 13 l (nI (h + 1 + 1))).1 12 = nI hi from h12]
  by_cases q : h + 2 ≤ hi
  · rw [if_pos (show nI (h + 1 + 1) ≤ nI hi from nI_le q (by omega)), o79, show max hi (h + 2) = hi by omega, sF_id _ _ _ (show (sA (sA τ 12 l r) 13 l (nI (h + 2))).1 12 = nI hi from h12)]
  · rw [if_neg (show ¬ nI (h + 1 + 1) ≤ nI hi from nI_ge (by omega) (by omega)), if_pos hib, ax_let, o79, show max hi (h + 2) = h + 2 by omega]
theorem pu_197 {N l h hi : Nat} {a y x : Int32} {τ : St} (h8 : τ.1 8 = nI (l + 1)) (hl : l < 60) (hx : τ.2 12 l = x) (h12 : τ.1 12 = nI hi) (hh : h < 1000) (hhi : hi < 1000) : J_Mod_one_197 N (nI (h + 1)) a y τ = some (o79 τ l (twoF a x y) h hi) := by
  have hib : inB (nI l) 60 = true := pu_inB hl (by decide)
  rw [J_Mod_one_197, h8, nI_pred, if_pos hib, nI_clamp (by omega), hx, pu_two, ax_bs, if_pos hib, ax_let, show (sA τ 12 l (twoF a x y)).1 8 = nI (l + 1) from h8, nI_pred, if_pos hib, nI_clamp (by omega), nI_1, ax_let, show (sA (sA τ 12 l (twoF a x y)) 13 l (nI (h + 1 + 1))).1 12 = nI hi from h12]
  by_cases q : h + 2 ≤ hi
  · rw [if_pos (show nI (h + 1 + 1) ≤ nI hi from nI_le q (by omega)), o79, show max hi (h + 2) = hi by omega, sF_id _ _ _ (show (sA (sA τ 12 l (twoF a x y)) 13 l (nI (h + 2))).1 12 = nI hi from h12)]
  · rw [if_neg (show ¬ nI (h + 1 + 1) ≤ nI hi from nI_ge (by omega) (by omega)), ax_let, o79, show max hi (h + 2) = h + 2 by omega]
theorem mst_79 {τ : St} {ws : List (Nat × Nat)} {s : List Int32} {hs : List Nat} {r : Int32} {h hi : Nat} (h9 : τ.1 9 = nI ws.length) (h14 : sIs (fun w : Nat × Nat => nI (cMn w.1)) (τ.2 14) ws) (h8 : τ.1 8 = nI (s.length + 1)) (h12 : sIs id (τ.2 12) s) (hl : hs.length = s.length) (h13 : sIs (fun h => nI (h + 1)) (τ.2 13) hs) : mst (o79 τ s.length r h hi) ws (r :: s) ((h + 1) :: hs) (max hi (h + 2)) := by
  refine ⟨h9, ?_, h8, ?_, ?_, ?_, rfl⟩
  · show sIs _ ((sA (sA τ 12 s.length r) 13 s.length (nI (h + 2))).2 14) ws
    rw [sA_ne _ _ _ (by decide), sA_ne _ _ _ (by decide)]
    exact h14
  · show sIs _ ((sA (sA τ 12 s.length r) 13 s.length (nI (h + 2))).2 12) _
    rw [sA_ne _ _ _ (by decide), sA_self]
    exact sIs.push h12 r
  · rw [List.length_cons, List.length_cons, hl]
  · show sIs _ ((sA (sA τ 12 s.length r) 13 s.length (nI (h + 2))).2 13) _
    rw [sA_self, sA_ne _ _ _ (by decide), ← hl]
    exact sIs.push h13 (h + 1)
theorem rk6 {k : Nat} (h : rk k = 6) : k = 21 ∨ k = 33 ∨ k = 64 := by
  unfold rk at h
  repeat' split at h
  all_goals first | assumption | omega
theorem cMn_op {k : Nat} (h : 1 ≤ rk k) (h6 : ¬ rk k = 6) : cMn k = k ∧ k < 125 := by
  have h40 : ¬ k = 40 := fun x => by rw [x, rk_40] at h; omega
  have hfn : ¬ (13 ≤ k ∧ k ≤ 20) := fun x => by rw [rk_fn x.1 x.2] at h; omega
  exact ⟨by unfold cMn; rw [if_neg h6, if_neg h40, if_neg hfn], rk_lt h⟩
theorem not_leaf {k : Nat} (h : 1 ≤ rk k) : ¬ k = 2 ∧ ¬ k = 3 ∧ ¬ (13 ≤ k ∧ k ≤ 20) := by
  refine ⟨fun x => ?_, fun x => ?_, fun x => ?_⟩
  · rw [x] at h; exact absurd h (by decide)
  · rw [x] at h; exact absurd h (by decide)
  · rw [rk_fn x.1 x.2] at h; omega
theorem pu_one {N k d r n : Nat} {A : Nat → Nat → Int32} {τ : St} {ws : List (Nat × Nat)} {s : List Int32} {hs : List Nat} {hi : Nat} (h : 1 ≤ rk k) (hA : envIs τ A) (hm : mst τ ((k, d) :: ws) s hs hi) (hl : s.length = dw (k, 0) + r) (hr : 1 ≤ r) (hb : bd hs hi (n + 1)) (hw : ws.length < 100) (hs58 : s.length ≤ 58) :
    ∃ (τ2 : St) (s2 : List Int32) (hs2 : List Nat) (hi2 : Nat), J_Mod_one N τ = some τ2 ∧ mst τ2 ws s2 hs2 hi2 ∧ s2.length = r ∧ bd hs2 hi2 n ∧ (∀ rl sd, xv rl A [(k, 0)] s sd s2 sd) ∧ xh [(k, 0)] hs hi hs2 hi2 ∧ oFr τ τ2 := by
  obtain ⟨m1, m2, m3, m4, m5, m6, m7⟩ := hm
  simp only [List.length_cons] at m1
  obtain ⟨nl1, nl2, nl3⟩ := not_leaf h
  rw [dw_op h] at hl
  have ha := ar_op h
  by_cases q : rk k = 6
  · rw [if_pos q] at hl ha
    cases s with
    | nil => simp only [List.length_nil] at hl; omega
    | cons x s =>
    cases hs with
    | nil => simp only [List.length_nil, List.length_cons] at m5; omega
    | cons y hs =>
    simp only [List.length_cons] at m3 m5 hl hs58
    have hy := hb.2 y (by simp)
    have hhi := hb.1
    have h8 : (sF τ 9 (nI ws.length)).1 8 = nI (s.length + 1) := m3
    have h13 : (sF τ 9 (nI ws.length)).2 13 s.length = nI (y + 1) := by
      have : hs.length = s.length := by omega
      rw [← this]
      exact m6.1
    have key : J_Mod_one N τ = J_Mod_one_79 N (o1 0 A k x 0).1 (sF τ 9 (nI ws.length)) := by
      rw [J_Mod_one, m1, nI_pred, ax_let, show (sF τ 9 (nI ws.length)).1 9 = nI ws.length from rfl, if_pos (pu_inB (by omega) (by decide)), nI_clamp (by omega), show (sF τ 9 (nI ws.length)).2 14 ws.length = nI (cMn k) from m2.1, ax_let, h8, nI_pred, if_pos (pu_inB (by omega) (by decide)), nI_clamp (by omega), show (sF τ 9 (nI ws.length)).2 12 s.length = x from m4.1, ax_let]
      rcases rk6 q with rfl | rfl | rfl
      · rw [if_neg (by decide), if_pos (by decide)]
        rfl
      · rw [if_neg (by decide), if_neg (by decide), if_pos (by decide)]
        show _ = J_Mod_one_79 N (if x = 0 then 65536 else 0) _
        split <;> rfl
      · rw [if_neg (by decide), if_neg (by decide), if_neg (by decide)]
        show _ = J_Mod_one_79 N (cellF (A 9) (x >>> (16 &&& 31) : Int32)) _
        rw [J_Mod_cell, ← hA.2.1, cellF]
        by_cases z1 : (x >>> (16 &&& 31) : Int32) < 0
        · rw [if_pos z1, if_pos z1, ax_bs]
        · rw [if_neg z1, if_neg z1]
          by_cases z2 : (32 : Int32) ≤ (x >>> (16 &&& 31) : Int32)
          · rw [if_pos z2, if_pos z2, ax_bs]
          · rw [if_neg z2, if_neg z2]
            obtain ⟨j, hj, e⟩ := nI_of z1
            have hj2 : j < 32 := by
              rcases Nat.lt_or_ge j 32 with w | w
              · exact w
              · rw [e] at z2
                exact absurd (nI_le (a := 32) w hj) z2
            rw [e, if_pos (pu_inB hj2 (by decide)), ax_bs]
            rfl
    have hsd : ∀ rl sd, o1 rl A k x sd = ((o1 0 A k x 0).1, sd) := by
      intro rl sd
      rcases rk6 q with rfl | rfl | rfl <;> rfl
    rw [key, pu_79 h8 (by omega) h13 m7 (by omega) (by omega)]
    refine ⟨_, (o1 0 A k x 0).1 :: s, (y + 1) :: hs, max hi (y + 2), rfl, mst_79 rfl m2.2 h8 m4.2 (by omega) m6.2, by rw [List.length_cons]; omega, ?_, fun rl sd => xv.one (fun sb => ?_), xh.one (fun hb2 => ?_), oFr.tr (b := sF τ 9 (nI ws.length)) ⟨fun j _ j2 _ => if_neg j2, fun _ _ _ _ => rfl⟩ (o79_fr _ _ _ _ _)⟩
    · exact (hb.tl.mono (by omega)).push (by omega)
    · show vN rl A (k, 0) (x :: (s ++ sb), sd) = some (_ :: (s ++ sb), sd)
      unfold vN
      rw [if_neg nl1, if_neg nl2, if_pos ha]
      show some ((o1 rl A k x sd).1 :: (s ++ sb), (o1 rl A k x sd).2) = _
      rw [hsd rl sd]
    · show hN k (y :: (hs ++ hb2), hi) = some ((y + 1) :: (hs ++ hb2), _)
      unfold hN
      rw [if_neg (by omega), if_pos ha]
  · rw [if_neg q] at hl ha
    cases s with
    | nil => simp only [List.length_nil] at hl; omega
    | cons y s =>
    cases s with
    | nil => simp only [List.length_nil, List.length_cons] at hl; omega
    | cons x s =>
    cases hs with
    | nil => simp only [List.length_nil, List.length_cons] at m5; omega
    | cons hy hs =>
    cases hs with
    | nil => simp only [List.length_nil, List.length_cons] at m5; omega
    | cons hx hs =>
    simp only [List.length_cons] at m3 m5 hl hs58
    have b1 := hb.2 hy (by simp)
    have b2 := hb.2 hx (by simp)
    have hhi := hb.1
    have hls : hs.length = s.length := by omega
    obtain ⟨c1, c2⟩ := cMn_op h q
    have h8 : (sF (sF τ 9 (nI ws.length)) 8 (nI (s.length + 1))).1 8 = nI (s.length + 1) := rfl
    have e12y : (sF τ 9 (nI ws.length)).2 12 (s.length + 1) = y := m4.1
    have e13y : (sF (sF τ 9 (nI ws.length)) 8 (nI (s.length + 1))).2 13 (s.length + 1) = nI (hy + 1) := by rw [← hls]; exact m6.1
    have e13x : (sF (sF τ 9 (nI ws.length)) 8 (nI (s.length + 1))).2 13 s.length = nI (hx + 1) := by rw [← hls]; exact m6.2.1
    have key : J_Mod_one N τ = J_Mod_one_197 N (nI (max hx hy + 1)) (nI k) y (sF (sF τ 9 (nI ws.length)) 8 (nI (s.length + 1))) := by
      rw [J_Mod_one, m1, nI_pred, ax_let, show (sF τ 9 (nI ws.length)).1 9 = nI ws.length from rfl, if_pos (pu_inB (by omega) (by decide)), nI_clamp (by omega), show (sF τ 9 (nI ws.length)).2 14 ws.length = nI (cMn k) from m2.1, c1, ax_let, show (sF τ 9 (nI ws.length)).1 8 = nI (s.length + 1 + 1) from m3, nI_pred, if_pos (pu_inB (by omega) (by decide)), nI_clamp (by omega), e12y, ax_let, if_pos (show nI k < 1000 from nI_lt (b := 1000) (by omega) (by decide)), ax_let, h8, nI_pred, if_pos (pu_inB (by omega) (by decide)), nI_clamp (by omega), if_pos (pu_inB (by omega) (by decide)), nI_clamp (by omega), e13y, e13x, if_pos (pu_inB (by omega) (by decide)), if_pos (pu_inB (by omega) (by decide))]
      by_cases z : hy ≤ hx
      · rw [if_pos (show nI (hy + 1) ≤ nI (hx + 1) from nI_le (by omega) (by omega)), show max hx hy = hx by omega]
      · rw [if_neg (show ¬ nI (hy + 1) ≤ nI (hx + 1) from nI_ge (by omega) (by omega)), show max hx hy = hy by omega]
    rw [key, pu_197 h8 (by omega) (show (sF (sF τ 9 (nI ws.length)) 8 (nI (s.length + 1))).2 12 s.length = x from m4.2.1) m7 (by omega) (by omega)]
    refine ⟨_, twoF (nI k) x y :: s, (max hx hy + 1) :: hs, max hi (max hx hy + 2), rfl, mst_79 rfl m2.2 h8 m4.2.2 hls m6.2.2, by rw [List.length_cons]; omega, ?_, fun rl sd => xv.one (fun sb => ?_), xh.one (fun hb2 => ?_), oFr.tr (b := sF (sF τ 9 (nI ws.length)) 8 (nI (s.length + 1))) ⟨fun j j1 j2 _ => ?_, fun _ _ _ _ => rfl⟩ (o79_fr _ _ _ _ _)⟩
    · exact (hb.tl.tl.mono (by omega)).push (by omega)
    · show vN rl A (k, 0) (y :: x :: (s ++ sb), sd) = some (_ :: (s ++ sb), sd)
      unfold vN
      rw [if_neg nl1, if_neg nl2, if_neg (show ¬ ar (k, (0 : Int32)).1 = 1 by show ¬ ar k = 1; omega)]
      show some (o2 rl A k x y :: (s ++ sb), sd) = _
      unfold o2
      rw [if_neg nl3]
    · show hN k (hy :: hx :: (hs ++ hb2), hi) = some ((max hx hy + 1) :: (hs ++ hb2), _)
      unfold hN
      rw [if_neg (by omega), if_neg (by omega)]
    · show upd (upd τ.1 9 _) 8 _ j = _
      rw [pk_un j1, pk_un j2]
