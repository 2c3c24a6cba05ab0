/-! PURE ROWS 13: the reference's check goes as the yard. -/
theorem tkM.e {τ τ2 : St} {i : Nat} {ts : List (Nat × Int32)} (h : tkM τ i ts) (he : eFr τ τ2) : tkM τ2 i ts := tkM.cg (he.2 1 (by decide)) (he.2 2 (by decide)) h
set_option maxHeartbeats 2000000 in
theorem ex_loop {N n : Nat} (hn : n ≤ 48) : ∀ (L : Nat) (ts : List (Nat × Int32)) (ws : List (Nat × Nat)) (o m p : Nat) (τ : St) (f : Nat), ts.length ≤ L → tkM τ (1344 + p) ts → p + ts.length = n → ws.length + ts.length ≤ 50 → o ≤ 5 → m ≤ 1 → allW ws → srt ws → eM τ o ws → ts.length < f →
    ∃ τ2 : St, J_Mod_expressions_20 N f (nI n) (nI (tll o ws).length) (nI m) (nI p) τ = some (gR n p ts.length (run ts ws o m), τ2) ∧ eFr τ τ2 := by
  intro L
  induction L with
  | zero =>
    intro ts ws o m p τ f hL ht hp hb ho hm hw hs he hf
    obtain ⟨f, rfl⟩ : ∃ k, f = k + 1 := ⟨f - 1, by omega⟩
    have h0 : ts = [] := List.length_eq_zero_iff.mp (by omega)
    subst h0
    refine ⟨τ, ?_, rfl, fun _ _ => rfl⟩
    have hpn : p = n := hp
    subst hpn
    have hh := hdl_le ho ws hw
    have hfl := flg_le hs
    rw [J_Mod_expressions_20, if_pos (nI_le (Nat.le_refl p) (by omega)), run_nil]
    by_cases q : m = 0
    · subst q
      rw [if_pos (show nI 0 = 0 from rfl)]
      rcases bot o ws with ⟨b1, b2, b3⟩ | ⟨w, ws2, b1, b2, b3, b4⟩
      · rw [b2, if_neg (show ¬ (0 : Int32) < nI ([] : List Nat).length by decide), if_pos (by decide)]
        have e1 : τ.2 14 0 = nI (2 * o + flg ws) := by
          have := he
          unfold eM at this
          rw [lv_eq, b2, b3] at this
          exact this.1
        rw [show (0 : Int32).toNatClampNeg = 0 from rfl, e1]
        by_cases z : o = 0
        · subst z
          rw [if_pos (show nI (2 * 0 + flg ws) ≤ 1 from nI_le (b := 1) (by omega) (by decide)), if_pos ⟨rfl, rfl, b1⟩]
          rfl
        · rw [if_neg (show ¬ nI (2 * o + flg ws) ≤ 1 from nI_ge (a := 1) (by omega) (by omega)), if_neg (fun x => z x.2.1)]
          rfl
      · rw [if_pos (show (0 : Int32) < nI (tll o ws).length from nI_lt (a := 0) (by rw [b3, lv_eq, List.length_cons]; omega) (by have := tll_len o ws; omega)), if_neg (fun x => by rw [b1] at x; exact absurd x.2.2 (by simp))]
        rfl
    · rw [if_neg (show ¬ nI m = 0 from nI_ne0 (by omega) (by omega)), if_neg (fun x => q x.1)]
      rfl
  | succ L ih =>
    intro ts ws o m p τ f hL ht hp hb ho hm hw hs he hf
    by_cases hlen : ts.length ≤ L
    · exact ih ts ws o m p τ f hlen ht hp hb ho hm hw hs he hf
    obtain ⟨f, rfl⟩ : ∃ k, f = k + 1 := ⟨f - 1, by omega⟩
    cases ts with
    | nil => exact absurd (Nat.zero_le L) hlen
    | cons t ts =>
    obtain ⟨k, v⟩ := t
    obtain ⟨t1, t2, -, t4⟩ := ht
    simp only [List.length_cons] at hL hp hb hf hlen
    have t1 : okk k = true := t1
    have t2 : τ.2 1 (1344 + p) = nI (kM k) := t2
    have t4 : tkM τ (1344 + p + 1) ts := t4
    have hk := okk_lt t1
    obtain ⟨a1, a2⟩ := kM_f1 k hk t1
    obtain ⟨a3, a4, a5, a6⟩ := kM_f2a k hk t1
    obtain ⟨a7, a8, a9, a10⟩ := kM_f2b k hk t1
    obtain ⟨a11, a12, a13, a14, a15⟩ := kM_f3 k hk t1
    have a16 := kM_fn k hk t1
    have hh := hdl_le ho ws hw
    have hfl := flg_le hs
    have hd := tll_len o ws
    have hrk := rk_le k
    generalize hD : (tll o ws).length = D at hd
    have hb14 : τ.2 14 D = nI (2 * hdl o ws + flg ws) := by
      have := he
      unfold eM at this
      rw [lv_eq] at this
      rw [← hD]
      exact this.1
    have htl : sIs nI (τ.2 14) (tll o ws) := by
      have := he
      unfold eM at this
      rw [lv_eq] at this
      exact this.2
    have hiB : inB (nI D) 110 = true := pu_inB (by omega) (by decide)
    show ∃ τ2 : St, J_Mod_expressions_20 N (f + 1) (nI n) (nI D) (nI m) (nI p) τ = some (gR n p (ts.length + 1) (run ((k, v) :: ts) ws o m), τ2) ∧ eFr τ τ2
    generalize start : J_Mod_expressions_20 N (f + 1) (nI n) (nI D) (nI m) (nI p) τ = X
    rw [J_Mod_expressions_20, if_neg (show ¬ nI n ≤ nI p from nI_ge (by omega) (by omega)), pu_1344, if_pos (pu_inB (by omega) (by decide)), nI_clamp (by omega), t2, ax_let] at start
    have go : ∀ (e : List (Nat × Int32)) (ws2 : List (Nat × Nat)) (o2 m2 : Nat) (τ2 : St), run ((k, v) :: ts) ws o m = addE e 1 (run ts ws2 o2 m2) → allW ws2 → srt ws2 → o2 ≤ 5 → m2 ≤ 1 → ws2.length + ts.length ≤ 50 → X = J_Mod_expressions_20 N f (nI n) (nI (tll o2 ws2).length) (nI m2) (nI (p + 1)) τ2 → eM τ2 o2 ws2 → eFr τ τ2 → ∃ τ2 : St, X = some (gR n p (ts.length + 1) (run ((k, v) :: ts) ws o m), τ2) ∧ eFr τ τ2 := by
      intro e ws2 o2 m2 τ2 g1 g2 g3 g4 g5 g6 g7 g8 g9
      obtain ⟨τ3, i1, i2⟩ := ih ts ws2 o2 m2 (p + 1) τ2 f (by omega) (tkM.cg (g9.2 1 (by decide)) (g9.2 2 (by decide)) (by rw [show 1344 + (p + 1) = 1344 + p + 1 by omega]; exact t4)) (by omega) g6 g4 g5 g2 g3 g8 (by omega)
      exact ⟨τ3, by rw [g7, i1, g1, gR_add], g9.tr i2⟩
    have no : X = some (nI p, τ) → run ((k, v) :: ts) ws o m = Sum.inl 0 → ∃ τ2 : St, X = some (gR n p (ts.length + 1) (run ((k, v) :: ts) ws o m), τ2) ∧ eFr τ τ2 := fun g1 g2 => ⟨τ, by rw [g1, g2]; show _ = some (if 0 = ts.length + 1 then -1 - nI n else nI (p + 0), τ); rw [if_neg (by omega)]; rfl, rfl, fun _ _ => rfl⟩
    by_cases q : m = 0
    · subst q
      rw [if_pos (show nI 0 = 0 from rfl)] at start
      -- a joining token
      by_cases q1 : k = 41
      · rw [if_pos (a3.mpr q1)] at start
        rcases bot o ws with ⟨b1, b2, b3⟩ | ⟨w, ws2, b1, b2, b3, b4⟩
        · rw [if_pos (show nI D = 0 by rw [← hD, b2]; rfl)] at start
          exact no start.symm (run_j0 (by unfold jn; rw [if_pos q1, b1]))
        · have hD1 : D = (tll o ws2).length + 1 := by rw [← hD, b3, lv_eq, List.length_cons]
          rw [if_neg (show ¬ nI D = 0 from nI_ne0 (by omega) (by omega)), if_pos hiB, nI_clamp (by omega), hb14, b4] at start
          by_cases z : w.2 = 0
          · rw [z, if_pos (show nI (2 * 0 + flg ws) ≤ 1 from nI_le (b := 1) (by omega) (by decide)), ax_let, ax_let, nI_1, hD1, pk_m1] at start
            have hj : ∃ e, jn k ws o = some (e, (unw 6 ws2).2, o, 0) := by
              unfold jn
              rw [if_pos q1, b1]
              simp only [if_pos z]
              by_cases z2 : w.1 = 40
              · exact ⟨_, by rw [if_pos z2]⟩
              · exact ⟨_, by rw [if_neg z2]⟩
            obtain ⟨e, hj⟩ := hj
            obtain ⟨c1, c2, -, -, -, c6⟩ := jn_inv hw hs hj
            refine go e _ o 0 τ (run_j1 hj) c1 c2 ho (by omega) (by omega) ?_ ?_ ⟨rfl, fun _ _ => rfl⟩
            · rw [unw_tll (by omega)]
              exact start.symm
            · unfold eM
              rw [lv_unw (by omega), ← b3]
              exact htl
          · rw [if_neg (show ¬ nI (2 * w.2 + flg ws) ≤ 1 from nI_ge (a := 1) (by omega) (by omega))] at start
            refine no start.symm (run_j0 ?_)
            unfold jn
            rw [if_pos q1, b1]
            simp only [if_neg z]
      rw [if_neg (fun x => q1 (a3.mp x))] at start
      by_cases q2 : k = 44
      · rw [if_pos (a4.mpr q2), if_pos hiB, nI_clamp (by omega), hb14] at start
        by_cases z : hdl o ws = 0
        · rw [if_neg (show ¬ (2 : Int32) ≤ nI (2 * hdl o ws + flg ws) from nI_ge (b := 2) (by omega) (by decide))] at start
          refine no start.symm (run_j0 ?_)
          unfold jn
          rw [if_neg q1, if_pos q2]
          rcases bot o ws with ⟨b1, b2, b3⟩ | ⟨w, ws2, b1, b2, b3, b4⟩
          · rw [b1]
            simp only [if_pos (show o = 0 by omega)]
          · rw [b1]
            simp only [if_pos (show w.2 = 0 by omega)]
        · rw [if_pos (show (2 : Int32) ≤ nI (2 * hdl o ws + flg ws) from nI_le (a := 2) (by omega) (by omega)), if_pos hiB, if_pos hiB, ax_let, ax_let, nI_1, show (2 : Int32) = nI 2 from rfl, pk_div (by omega) (by decide) (by decide), show (1 : Int32) = nI 1 from rfl, pk_sub (by omega), pk_mul, show (nI 1 : Int32) = 1 from rfl] at start
          have hv : ((2 * hdl o ws + flg ws) / 2 - 1) * 2 = 2 * (hdl o ws - 1) := by omega
          rw [hv] at start
          rcases bot o ws with ⟨b1, b2, b3⟩ | ⟨w, ws2, b1, b2, b3, b4⟩
          · have hj : jn k ws o = some ((unw 1 ws).1, [], o - 1, 1) := by
              unfold jn
              rw [if_neg q1, if_pos q2, b1]
              simp only [if_neg (show ¬ o = 0 by omega)]
            obtain ⟨c1, c2, -, -, -, c6⟩ := jn_inv hw hs hj
            refine go _ _ _ _ (sA τ 14 D (nI (2 * (hdl o ws - 1)))) (run_j1 hj) c1 c2 (by omega) (by omega) (by omega) (start.symm.trans ?_) ?_ (eFr.s τ _ _)
            · rw [← hD, b2]; rfl
            · unfold eM
              rw [sA_self, ← hD, b2, b3]
              exact ⟨pk_us, trivial⟩
          · have hj : jn k ws o = some ((unw 1 ws).1, (w.1, w.2 - 1) :: ws2, o, 1) := by
              unfold jn
              rw [if_neg q1, if_pos q2, b1]
              simp only [if_neg (show ¬ w.2 = 0 by omega)]
            obtain ⟨c1, c2, -, -, -, c6⟩ := jn_inv hw hs hj
            have hl : lv o ((w.1, w.2 - 1) :: ws2) = (2 * (w.2 - 1)) :: lv o ws2 := by rw [lv, if_pos b2]
            have ht2 : tll o ((w.1, w.2 - 1) :: ws2) = lv o ws2 := by rw [tll, if_pos b2]
            refine go _ _ _ _ (sA τ 14 D (nI (2 * (hdl o ws - 1)))) (run_j1 hj) c1 c2 (by omega) (by omega) (by omega) (start.symm.trans ?_) ?_ (eFr.s τ _ _)
            · rw [ht2, ← b3, hD]; rfl
            · unfold eM
              rw [sA_self, hl, ← hD, b4, b3]
              rw [b3] at htl
              exact sIs.push htl _
      rw [if_neg (fun x => q2 (a4.mp x)), pu_lev, ax_bs, a1] at start
      by_cases q3 : rk k = 0 ∨ rk k = 6
      · rw [if_pos (show nI (if rk k = 6 then 0 else rk k) = 0 by rcases q3 with z | z <;> rw [z] <;> rfl)] at start
        refine no start.symm (run_j0 ?_)
        unfold jn
        rw [if_neg q1, if_neg q2, if_pos q3]
      · rw [if_neg (show ¬ rk k = 6 by omega), if_neg (show ¬ nI (rk k) = 0 from nI_ne0 (by omega) (by omega)), pu_rel, ax_bs, a2] at start
        rw [if_neg (show ¬ rk k = 6 by omega)] at a1
        have h308 := fun (K : Int32 → Int32 → Int32 → Int32 → St → Option (Int32 × St)) => pu_308 (N := N) (n := nI n) (p := p) (K := K) (l7 := nI (kM k)) (l := D) (τ := τ) (by omega) a1 hrk a2 hb14 (by omega)
        by_cases z : rk k = 3
        · rw [if_pos z, if_neg (by decide), if_pos hiB, nI_clamp (by omega), hb14, show (2 : Int32) = nI 2 from rfl, pk_rem (by omega) (by decide) (by decide)] at start
          have hf4 := flg_4 hs
          by_cases z2 : tr (unw 4 ws).2 = 3
          · rw [if_pos z2] at hf4
            rw [if_pos (show nI ((2 * hdl o ws + flg ws) % 2) = 1 by rw [show (2 * hdl o ws + flg ws) % 2 = 1 by omega]; rfl)] at start
            refine no start.symm (run_j0 ?_)
            unfold jn
            rw [if_neg q1, if_neg q2, if_neg q3, if_pos z, if_pos z2]
          · rw [if_neg z2] at hf4
            rw [if_neg (show ¬ nI ((2 * hdl o ws + flg ws) % 2) = 1 by rw [show (2 * hdl o ws + flg ws) % 2 = 0 by omega]; decide), h308, if_pos z] at start
            have hj : jn k ws o = some ((unw 4 ws).1, (k, 0) :: (unw 4 ws).2, o, 1) := by
              unfold jn
              rw [if_neg q1, if_neg q2, if_neg q3, if_pos z, if_neg z2]
            obtain ⟨c1, c2, -, -, -, c6⟩ := jn_inv hw hs hj
            have hl : lv o ((k, 0) :: (unw 4 ws).2) = (2 * hdl o ws + flg ws + 1) :: tll o ws := by
              rw [lv, if_neg (show ¬ rk (k, 0).1 = 0 from fun x => q3 (Or.inl x)), if_pos z, lv_unw (by omega), lv_eq]
              rfl
            have ht2 : tll o ((k, 0) :: (unw 4 ws).2) = tll o ws := by rw [tll, if_neg (show ¬ rk (k, 0).1 = 0 from fun x => q3 (Or.inl x)), unw_tll (by omega)]
            refine go _ _ _ _ (sA τ 14 D (nI (2 * hdl o ws + flg ws + 1))) (run_j1 hj) c1 c2 (by omega) (by omega) (by omega) (start.symm.trans ?_) ?_ (eFr.s τ _ _)
            · rw [ht2, hD]; rfl
            · unfold eM
              rw [sA_self, hl, ← hD]
              exact sIs.push htl _
        · rw [if_neg z, if_pos rfl, h308, if_neg z] at start
          have hj : jn k ws o = some ((unw (rk k) ws).1, (k, 0) :: (unw (rk k) ws).2, o, 1) := by
            unfold jn
            rw [if_neg q1, if_neg q2, if_neg q3, if_neg z]
          obtain ⟨c1, c2, -, -, -, c6⟩ := jn_inv hw hs hj
          have ht2 : tll o ((k, 0) :: (unw (rk k) ws).2) = tll o ws := by rw [tll, if_neg (show ¬ rk (k, 0).1 = 0 from fun x => q3 (Or.inl x)), unw_tll (by omega)]
          have hl : lv o ((k, 0) :: (unw (rk k) ws).2) = (2 * hdl o ws + flg (unw (rk k) ws).2) :: tll o ws := by
            rw [lv, if_neg (show ¬ rk (k, 0).1 = 0 from fun x => q3 (Or.inl x)), if_neg z, lv_eq, unw_tll (by omega), unw_hdl (by omega)]
          by_cases z2 : 3 ≤ rk k
          · rw [if_pos z2] at start
            refine go _ _ _ _ τ (run_j1 hj) c1 c2 (by omega) (by omega) (by omega) (start.symm.trans ?_) ?_ ⟨rfl, fun _ _ => rfl⟩
            · rw [ht2, hD]; rfl
            · unfold eM
              rw [hl, unw_flg (by omega), ← lv_eq]
              exact he
          · rw [if_neg z2] at start
            refine go _ _ _ _ (sA τ 14 D (nI ((2 * hdl o ws + flg ws) / 2 * 2))) (run_j1 hj) c1 c2 (by omega) (by omega) (by omega) (start.symm.trans ?_) ?_ (eFr.s τ _ _)
            · rw [ht2, hD]; rfl
            · unfold eM
              rw [sA_self, hl, unw_flg0 (by omega) (by omega) hs, ← hD, show (2 * hdl o ws + flg ws) / 2 * 2 = 2 * hdl o ws + 0 by omega]
              exact sIs.push htl _
    · obtain rfl : m = 1 := by omega
      rw [if_neg (by decide)] at start
      have r0 : ∀ (c : Nat) (d : Nat), rk c = 0 → srt ws → srt ((c, d) :: ws) := fun c d h1 h2 => ⟨fun x _ => by have : 1 ≤ rk c := x; omega, h2⟩
      have pre : ∀ c, rk c = 6 → X = J_Mod_expressions_20 N f (nI n) (nI D) (nI 1) (nI (p + 1)) τ → run ((k, v) :: ts) ws o 1 = addE [] 1 (run ts ((c, 0) :: ws) o 1) → ∃ τ2 : St, X = some (gR n p (ts.length + 1) (run ((k, v) :: ts) ws o 1), τ2) ∧ eFr τ τ2 := by
        intro c hc g1 g2
        refine go _ _ _ _ τ g2 ⟨okW_op (by omega), hw⟩ ⟨fun _ x => by have : rk c ≤ 5 := x; omega, hs⟩ ho (by omega) (by simp only [List.length_cons]; omega) ?_ ?_ ⟨rfl, fun _ _ => rfl⟩
        · rw [show tll o ((c, 0) :: ws) = tll o ws by rw [tll, if_neg (by show ¬ rk c = 0; omega)], hD]
          exact g1
        · unfold eM
          rw [show lv o ((c, 0) :: ws) = lv o ws by rw [lv, if_neg (by show ¬ rk c = 0; omega), if_neg (by show ¬ rk c = 3; omega)]]
          exact he
      by_cases p1 : k = 45
      · subst p1
        rw [if_pos (a5.mpr rfl), ax_let, nI_1] at start
        exact pre 21 (by decide) start.symm run_p2
      rw [if_neg (fun x => p1 (a5.mp x))] at start
      by_cases p2 : k = 33
      · subst p2
        rw [if_pos (a6.mpr rfl), ax_let, nI_1] at start
        exact pre 33 (by decide) start.symm (run_p3 (Or.inl rfl))
      rw [if_neg (fun x => p2 (a6.mp x))] at start
      by_cases p3 : k = 64
      · subst p3
        rw [if_pos (a7.mpr rfl), ax_let, nI_1] at start
        exact pre 64 (by decide) start.symm (run_p3 (Or.inr (Or.inl rfl)))
      rw [if_neg (fun x => p3 (a7.mp x))] at start
      have leaf : X = J_Mod_expressions_20 N f (nI n) (nI D) 0 (nI (p + 1)) τ → (k = 2 ∨ k = 3) → ∃ τ2 : St, X = some (gR n p (ts.length + 1) (run ((k, v) :: ts) ws o 1), τ2) ∧ eFr τ τ2 := by
        intro g1 g2
        have u := unw_len 6 ws
        refine go _ _ _ _ τ (run_p1 g2) (unw_all 6 ws hw) (unw_srt 6 ws hs) ho (by omega) (by omega) ?_ ?_ ⟨rfl, fun _ _ => rfl⟩
        · rw [unw_tll (by omega), hD]
          exact g1
        · unfold eM
          rw [lv_unw (by omega)]
          exact he
      by_cases p4 : k = 2
      · rw [if_pos (a9.mpr p4), ax_let, nI_1] at start
        exact leaf start.symm (Or.inl p4)
      rw [if_neg (fun x => p4 (a9.mp x))] at start
      by_cases p5 : k = 3
      · rw [if_pos (a10.mpr p5), ax_let, nI_1] at start
        exact leaf start.symm (Or.inr p5)
      rw [if_neg (fun x => p5 (a10.mp x))] at start
      -- a bracket
      have brk : ∀ (c d : Nat), rk c = 0 → okW (c, d) → sIs nI (upd (τ.2 14) (D + 1) (nI (2 * d))) (lv o ((c, d) :: ws)) ∧ (tll o ((c, d) :: ws)).length = D + 1 := by
        intro c d h1 h2
        rw [lv, if_pos h1, tll, if_pos h1]
        have hl : (lv o ws).length = D + 1 := by rw [lv_eq, List.length_cons, hD]
        refine ⟨?_, hl⟩
        rw [← hl]
        exact sIs.push he _
      by_cases p6 : k = 40
      · subst p6
        rw [if_pos (a8.mpr rfl), ax_let, nI_1, if_pos (pu_inB (by omega) (by decide)), ax_let, ax_let, nI_clamp (by omega), nI_1] at start
        obtain ⟨x1, x2⟩ := brk 40 0 rk_40 (Or.inr (Or.inl ⟨rfl, rfl⟩))
        refine go _ _ _ _ (sA τ 14 (D + 1) (nI (2 * 0))) (run_p3 (Or.inr (Or.inr rfl))) ⟨Or.inr (Or.inl ⟨rfl, rfl⟩), hw⟩ (r0 40 0 rk_40 hs) ho (by omega) (by simp only [List.length_cons]; omega) (start.symm.trans ?_) ?_ (eFr.s τ _ _)
        · rw [x2]; rfl
        · unfold eM
          rw [sA_self]
          exact x1
      rw [if_neg (fun x => p6 (a8.mp x))] at start
      by_cases p7 : ¬ (13 ≤ k ∧ k ≤ 20)
      · have hno : X = some (nI p, τ) := by
          rcases a16.mpr p7 with z | z
          · rw [if_pos (a14.mpr z)] at start
            exact start.symm
          · rw [if_neg (fun x => by have := a14.mp x; omega), if_pos (a15.mpr z)] at start
            exact start.symm
        exact no hno (run_p6 (by omega) p1 (by omega) p7)
      have p7 := Decidable.not_not.mp p7
      have p8 : ¬ kM k < 20 ∧ ¬ 27 < kM k := by
        have := (not_congr a16).mpr (fun x => x p7)
        omega
      rw [if_neg (fun x => p8.1 (a14.mp x)), if_neg (fun x => p8.2 (a15.mp x))] at start
      have hpt : pt k - 1 ≤ 1 ∧ 1 ≤ pt k := by have := pt_le k; omega
      have ho152 : ∀ K : Int32 → Int32 → Int32 → Int32 → St → Option (Int32 × St), J_Mod_expressions_152 N K (nI n) (nI D) (nI 1) (nI p) (nI (kM k)) τ = K (nI n) (nI (D + 1)) (nI 1) (nI (p + 2)) (sA τ 14 (D + 1) (nI (2 * (pt k - 1)))) := by
        intro K
        have hb1 : inB (nI (D + 1)) 110 = true := pu_inB (by omega) (by decide)
        have hc1 : (nI (D + 1)).toNatClampNeg = D + 1 := nI_clamp (by omega)
        rw [J_Mod_expressions_152]
        simp only [ax_let, nI_1, hb1, hc1, eq_self, if_true]
        by_cases z1 : k = 17
        · rw [if_pos (a11.mpr z1), show pt k = 2 by rw [z1]; rfl]; rfl
        rw [if_neg (fun x => z1 (a11.mp x))]
        by_cases z2 : k = 18
        · rw [if_pos (a12.mpr z2), show pt k = 2 by rw [z2]; rfl]; rfl
        rw [if_neg (fun x => z2 (a12.mp x))]
        by_cases z3 : k = 19
        · rw [if_pos (a13.mpr z3), show pt k = 2 by rw [z3]; rfl]; rfl
        rw [if_neg (fun x => z3 (a13.mp x)), show pt k = 1 by unfold pt; rw [if_neg (by omega)]]; rfl
      obtain ⟨x1, x2⟩ := brk k (pt k - 1) (rk_fn p7.1 p7.2) (Or.inr (Or.inr ⟨p7.1, p7.2, by show pt k - 1 + 1 ≤ pt k; omega⟩))
      cases ts with
      | nil =>
        rw [nI_1, if_pos (nI_le (show n ≤ p + 1 by simp only [List.length_nil] at hp; omega) (by omega)), ho152] at start
        obtain ⟨f, rfl⟩ : ∃ k, f = k + 1 := ⟨f - 1, by omega⟩
        refine ⟨_, ?_, eFr.s τ (D + 1) (nI (2 * (pt k - 1)))⟩
        rw [← start, run_p4 p7, J_Mod_expressions_20, if_pos (nI_le (show n ≤ p + 2 by simp only [List.length_nil] at hp; omega) (by omega)), if_neg (show ¬ nI 1 = 0 by decide)]
        rfl
      | cons t2' ts2 =>
        obtain ⟨k2, v2⟩ := t2'
        simp only [List.length_cons] at hL hp hb hf hlen
        obtain ⟨s1, s2, -, s4⟩ := t4
        have s1 : okk k2 = true := s1
        have s2 : τ.2 1 (1344 + p + 1) = nI (kM k2) := s2
        have s3 := (kM_f2b k2 (okk_lt s1) s1).2.1
        rw [nI_1, if_neg (nI_ge (show p + 1 < n by omega) (by omega)), nI_1, if_pos (pu_inB (by omega) (by decide)), nI_clamp (by omega), s2, ho152] at start
        by_cases z : k2 = 40
        · rw [if_pos (s3.mpr z)] at start
          obtain ⟨τ3, i1, i2⟩ := ih ts2 ((k, pt k - 1) :: ws) o 1 (p + 2) (sA τ 14 (D + 1) (nI (2 * (pt k - 1)))) f (by omega) (by rw [show 1344 + (p + 2) = 1344 + p + 1 + 1 by omega]; exact s4.e (eFr.s τ _ _)) (by omega) (by simp only [List.length_cons]; omega) ho (by omega) ⟨Or.inr (Or.inr ⟨p7.1, p7.2, by show pt k - 1 + 1 ≤ pt k; omega⟩), hw⟩ (r0 k _ (rk_fn p7.1 p7.2) hs) (by unfold eM; rw [sA_self]; exact x1) (by omega)
          refine ⟨τ3, ?_, (eFr.s τ _ _).tr i2⟩
          rw [x2] at i1
          rw [← start, i1, run_p5 p7, if_pos z]
          rw [show (((k2, v2) :: ts2).length + 1) = ts2.length + 2 by simp only [List.length_cons], gR_add]
        · rw [if_neg (fun x => z (s3.mp x))] at start
          refine ⟨τ, ?_, rfl, fun _ _ => rfl⟩
          rw [← start, run_p5 p7, if_neg z]
          show _ = some (if 1 = ((k2, v2) :: ts2).length + 1 then -1 - nI n else nI (p + 1), τ)
          rw [if_neg (by simp only [List.length_cons]; omega)]
theorem pu_expr {N n p w : Nat} {τ : St} {ts : List (Nat × Int32)} (hN : 100 ≤ N) (hn : n ≤ 48) (hp : p + ts.length = n) (ht : tkM τ (1344 + p) ts) (hw : 1 ≤ w) (hw2 : w ≤ 5) : ∃ τ2 : St, J_Mod_expressions N (nI p) (nI n) (nI w) τ = some (gR n p ts.length (run ts [] (w - 1) 1), τ2) ∧ eFr τ τ2 := by
  rw [J_Mod_expressions, if_pos (by decide), ax_let, show (0 : Int32).toNatClampNeg = 0 from rfl, show (1 : Int32) = nI 1 from rfl, pk_sub hw, show (2 : Int32) = nI 2 from rfl, pk_mul]
  obtain ⟨τ2, h1, h2⟩ := ex_loop (N := N) hn ts.length ts [] (w - 1) 1 p (sA τ 14 0 (nI (2 * (w - 1)))) N (Nat.le_refl _) (ht.e (eFr.s τ _ _)) hp (by simp only [List.length_nil]; omega) (by omega) (Nat.le_refl _) trivial trivial ⟨by rw [sA_self]; exact pk_us, trivial⟩ (by omega)
  exact ⟨τ2, h1, (eFr.s τ _ _).tr h2⟩
