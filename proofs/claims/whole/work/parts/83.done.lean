/-! PURE ROWS 34: a line done, put together. -/
theorem pc_do {N l k : Nat} {σ σ1 : St} (hl : l < 28) (hw : J_Machine_workOut N (nI l) σ = some σ1) (h12 : σ1.2 12 l = nI k) : J_Machine_doLine N (nI l) σ = (if nI k = 4 then J_Machine_doLine_26 N (nI l) σ1 else if nI k = 6 then J_Machine_doLine_26 N (nI l) σ1 else if nI k = 3 then (if (inB (σ1.2 13 l) 12) = true then some (nI (l + 1), sA σ1 19 (σ1.2 13 l).toNatClampNeg (σ1.2 21 0)) else none) else if nI k = 12 then ax_bindV (J_Machine_writeCell N (σ1.2 21 0 >>> (16 &&& 31) : Int32) (σ1.2 21 1) σ1) (fun s => some (nI (l + 1), s)) else ax_bindV (J_Machine_draw N (nI k) σ1) (fun s => some (nI (l + 1), s))) := by
  have b0 : inB 0 16 = true := by decide
  have b1 : inB 1 16 = true := by decide
  have bl : inB (nI l) 28 = true := pu_inB hl (by decide)
  have hcl : (nI l).toNatClampNeg = l := nI_clamp (by omega)
  have z0 : (0 : Int32).toNatClampNeg = 0 := rfl
  have z1 : (1 : Int32).toNatClampNeg = 1 := rfl
  simp only [J_Machine_doLine, hw, ax_bsV, b0, b1, bl, hcl, h12, ax_let, eq_self, if_true, pu_cfloor, ax_bs, nI_1, z0, z1]
theorem pm_do {N l k w : Nat} {τ : St} (hl : l < 28) (hk1 : 4 ≤ k) (hk2 : k ≤ 12) (hw : sp k = w) (hw1 : 1 ≤ w) : J_Mod_done N (nI l) (nI (kM k)) τ = J_Mod_done_91 N N (nI l) (nI (kM k)) (nI w) 0 (sF τ 10 (nI (48 * l))) := by
  have h5 : ¬ k = 5 := fun x => by rw [x] at hw; have : sp 5 = 0 := by decide
                                   omega
  have h7 : ¬ k = 7 := fun x => by rw [x] at hw; have : sp 7 = 0 := by decide
                                   omega
  have f1 : ∀ k, k ≤ 12 → 4 ≤ k → (nI (kM k) = 11 ↔ k = 5) ∧ (nI (kM k) = 13 ↔ k = 7) ∧ ¬ nI (kM k) = 2 := by decide
  obtain ⟨a, b, c⟩ := f1 k hk2 hk1
  rw [J_Mod_done, pu_48, ax_let, if_neg (fun x => h5 (a.mp x)), if_neg (fun x => h7 (b.mp x)), if_neg c, pu_wants hk1 hk2, ax_bs, ax_let, hw]
set_option maxHeartbeats 1000000 in
theorem pu_do {N n l : Nat} {σ τ : St} (hN1 : 300 ≤ N) (hl : l < n) (hn : n ≤ 28) (hln : lnR σ τ l) (hlo : lineOK (σ.2 12) (σ.2 17) (τ.2 8) l n) (hE : envR σ τ) (hs : σ.1 19 = τ.1 5) (hh : ∃ hi : Nat, hi ≤ 60 ∧ τ.1 12 = nI hi) (h5 : ¬ σ.2 12 l = 5) (h7 : ¬ σ.2 12 l = 7) : doR σ τ n (J_Machine_doLine N (nI l) σ) (J_Mod_done N (nI l) (τ.2 1 (48 * l)) τ) := by
  obtain ⟨k, v, ts, E, a1, a2, a3, a4, a5, a6, a7, a8, a9, a10, a11, a12⟩ := hln
  obtain ⟨hi, hi1, hi2⟩ := hh
  have hnm := lr_nm a4 a5
  obtain ⟨t1, t2, t3, t4⟩ := a3
  have t2 : τ.2 1 (48 * l) = nI (kM k) := t2
  rw [t2]
  have hl28 : l < 28 := by omega
  have hno : nmO ts := nmO_of (b := 12) (by omega) ts (fun t ht => a4 t (List.mem_cons_of_mem _ ht))
  rcases lr_cases a5 with ⟨rfl, v2, ts2, rfl, e2⟩ | ⟨k1, k2, k3, rfl, rfl⟩ | ⟨k1, k2, k3, e⟩
  · -- a name gets a value
    simp only [List.length_cons] at a1 a2
    have t3 : τ.2 2 (48 * l) = v := t3 (Or.inr rfl)
    obtain ⟨id', d1, d2⟩ := a4 (3, v) (List.mem_cons_self ..) rfl
    have d2 : v = nI id' := d2
    obtain ⟨E1, E2, q2, τ2, w, h, hi3, j, g1, g2, g3, g4, g5, g6, g7, g8, g9, g10, g11⟩ := pu_work (N := N) (line := l) (p := 48 * l + 2) (o := 0) (rl := 1) (T := ts2.length + 1 + 1) (A := τ.2) (τ := τ) (ts := ts2) hN1 (by omega) (by omega) a1 a2 (by omega) (by omega) t4.2.2.2 hno.2 e2 ⟨rfl, rfl, rfl, rfl⟩ hi2 hi1
    have hz : E2 = [] := by
      rcases g11 with z | ⟨ts2, z, -⟩
      · exact z.2.1
      · omega
    subst hz
    rw [List.append_nil] at g2
    subst g2
    have g1 : J_Mod_work N (nI l) (nI (48 * l + 2)) 1 τ = some (w, τ2) := g1
    have g3 := g3 []
    have g3 : exV 1 τ.2 E ([], σ.1 19) = some ([w], τ2.1 5) := by rw [hs]; exact g3
    obtain ⟨σ1, w1, w2, w3, w4⟩ := pu_workout (N := N) (by omega) hl28 a6 hnm a11 a12 a9 hE.c g3
    have e12 : σ1.2 12 l = nI 3 := by rw [w4.2 12 (by decide)]; exact a7
    have e13 : σ1.2 13 l = nI id' := by rw [w4.2 13 (by decide), a8 rfl, d2]
    have e21 : σ1.2 21 0 = w := w2.1
    have env1 := hE.wg w4 g10.g
    refine ⟨l + 1, sA σ1 19 id' w, sA τ2 7 id' w, by omega, ?_, ?_, w4.h.tr ⟨fun _ _ _ => rfl, fun k a _ _ _ => sA_ne _ _ _ a⟩, g10.g.h.tr ⟨fun _ _ _ _ _ _ _ => rfl, fun k a _ _ _ _ _ _ => sA_ne _ _ _ a⟩, ⟨fun k hk => ?_, ?_, ?_, ?_⟩, w3, hi3, g8, g7⟩
    · rw [pc_do hl28 w1 e12, if_neg (by decide), if_neg (by decide), if_pos (show nI 3 = 3 from rfl), e13, if_pos (pu_inB d1 (by decide)), nI_clamp (by omega), e21]
    · rw [J_Mod_done, pu_48, ax_let, if_neg (by decide), if_neg (by decide), if_pos (show nI (kM 3) = 2 by decide), if_pos (pu_inB (by omega) (by decide)), nI_clamp (by omega), show (2 : Int32) = nI 2 from rfl, nI_add, g1, ax_bs, t3, d2, if_pos (pu_inB (by omega) (by decide)), nI_clamp (by omega), nI_1, ax_let]
    · rw [sA_self, sA_self]
      by_cases z : k = id'
      · rw [z, pk_us, pk_us]
      · rw [pk_un z, pk_un z]
        exact env1.1 k hk
    · rw [sA_ne _ _ _ (by decide), sA_ne _ _ _ (by decide)]; exact env1.2.1
    · rw [sA_ne _ _ _ (by decide), sA_ne _ _ _ (by decide)]; exact env1.2.2.1
    · rw [sA_ne _ _ _ (by decide), sA_ne _ _ _ (by decide)]; exact env1.2.2.2
  · rcases sp_0 k1 k2 k3 with z | z
    · rw [z] at a7; exact absurd a7 h5
    · rw [z] at a7; exact absurd a7 h7
  · -- the values, on both sides
    obtain ⟨τ1, vs, f2, g1, g2, g3, g4, g5, hi3, g6, g7⟩ := pm_91 (N := N) (l := l) (T := ts.length + 1) (w := sp k) (kk := nI (kM k)) (A := τ.2) hN1 hl28 a2 sp_le (sp k - 1) ts E (48 * l) hi [] (sF τ 10 (nI (48 * l))) N a1 (by omega) (by omega) rfl (tkM.cg (τ := τ) (τ2 := sF τ 10 (nI (48 * l))) rfl rfl t4) hno e ⟨rfl, rfl, rfl, rfl⟩ hi2 hi1 trivial (by simp only [List.length_nil]; omega) (by have := @sp_le k; omega)
    have g1 : J_Mod_done_91 N N (nI l) (nI (kM k)) (nI (sp k)) 0 (sF τ 10 (nI (48 * l))) = _ := g1
    have g2 : exV 1 τ.2 E ([], σ.1 19) = some (vs, τ1.1 5) := by rw [hs]; exact g2
    have fr1 : gFr τ τ1 := gFr.tr (b := sF τ 10 (nI (48 * l))) ⟨fun k _ _ _ d _ _ => if_neg d, fun _ _ _ _ _ => rfl⟩ g5
    obtain ⟨σ1, w1, w2, w3, w4⟩ := pu_workout (N := N) (by omega) hl28 a6 hnm a11 a12 a9 hE.c g2
    have e12 : σ1.2 12 l = nI k := by rw [w4.2 12 (by decide)]; exact a7
    have env1 := hE.wg w4 fr1
    have vals : ∀ j, j < sp k → σ1.2 21 j = τ1.2 15 j := fun j hj => w2.eqs g4 j (by omega)
    have stM := (pm_do (N := N) (τ := τ) hl28 k1 k2 rfl k3).trans g1
    have stC := pc_do hl28 w1 e12
    have sub1 : ∀ m : Nat, nI (m + 1) - 1 = nI m := nI_pred
    have i0 : inB 0 6 = true := by decide
    have i1 : inB 1 6 = true := by decide
    have i2 : inB 2 6 = true := by decide
    have i3 : inB 3 6 = true := by decide
    have i4 : inB 4 6 = true := by decide
    have z0 : (0 : Int32).toNatClampNeg = 0 := rfl
    have z1 : (1 : Int32).toNatClampNeg = 1 := rfl
    have z2 : (2 : Int32).toNatClampNeg = 2 := rfl
    have z3 : (3 : Int32).toNatClampNeg = 3 := rfl
    have z4 : (4 : Int32).toNatClampNeg = 4 := rfl
    rw [J_Mod_done_91, if_pos (Int32.le_refl _)] at stM
    have drawn : ∀ (J K : Option St), pR σ1 τ1 J K → J_Machine_doLine N (nI l) σ = ax_bindV J (fun s => some (nI (l + 1), s)) → J_Mod_done N (nI l) (nI (kM k)) τ = ax_bindV K (fun s => some (nI (l + 1), s)) → doR σ τ n (J_Machine_doLine N (nI l) σ) (J_Mod_done N (nI l) (nI (kM k)) τ) := by
      intro J K hp hJ hK
      obtain ⟨σ2, τ2, p1, p2, p3, p4, p5⟩ := hp
      refine ⟨l + 1, σ2, τ2, by omega, by rw [hJ, p1, ax_bsV], by rw [hK, p2, ax_bsV], w4.h.tr p3.hc, fr1.h.tr p4.hm, env1.d p3 p4 p5, ?_, hi3, g6, ?_⟩
      · rw [p3.1, p4.1]
        exact w3
      · rw [p4.1]
        exact g7
    have cond : (k = 4 ∨ k = 6) → sp k = 1 → J_Machine_doLine N (nI l) σ = J_Machine_doLine_26 N (nI l) σ1 → J_Mod_done N (nI l) (nI (kM k)) τ = J_Mod_done_135 N (nI l) τ1 → doR σ τ n (J_Machine_doLine N (nI l) σ) (J_Mod_done N (nI l) (nI (kM k)) τ) := by
      intro hk hsp hJ hK
      have v0 := vals 0 (by omega)
      have hsc : σ.2 12 l = 4 ∨ σ.2 12 l = 5 ∨ σ.2 12 l = 6 := by
        rw [a7]
        rcases hk with z | z
        · rw [z]; exact Or.inl rfl
        · rw [z]; exact Or.inr (Or.inr rfl)
      obtain ⟨en, en1, en2, en3, en4⟩ := hlo.1 hsc
      have j17 : σ1.2 17 l = nI (en + 1) := by rw [w4.2 17 (by decide)]; exact en4
      have j8 : τ1.2 8 l = nI en := by rw [fr1.2 8 (by decide) (by decide) (by decide) (by decide)]; exact en3
      rw [J_Machine_doLine_26, if_pos (by decide), z0, v0] at hJ
      rw [J_Mod_done_135, if_pos (by decide), z0] at hK
      by_cases z : τ1.2 15 0 = 0
      · rw [if_pos z, if_pos (pu_inB hl28 (by decide)), nI_clamp (by omega), j17] at hJ
        rw [if_pos z, if_pos (pu_inB (by omega) (by decide)), nI_clamp (by omega), j8, nI_1] at hK
        exact ⟨en + 1, σ1, τ1, by omega, hJ, hK, w4.h, fr1.h, env1, w3, hi3, g6, g7⟩
      · rw [if_neg z, nI_1] at hJ
        rw [if_neg z, nI_1] at hK
        exact ⟨l + 1, σ1, τ1, by omega, hJ, hK, w4.h, fr1.h, env1, w3, hi3, g6, g7⟩
    rcases sp_1 k1 k2 k3 with ⟨rfl, s⟩ | ⟨rfl, s⟩ | ⟨rfl, s⟩ | ⟨rfl, s⟩ | ⟨rfl, s⟩ | ⟨rfl, s⟩ | ⟨rfl, s⟩
    · rw [if_pos (show nI 4 = 4 from rfl)] at stC
      rw [if_pos (show nI (kM 4) = 10 by decide)] at stM
      exact cond (Or.inl rfl) s stC stM
    · rw [if_neg (by decide), if_pos (show nI 6 = 6 from rfl)] at stC
      rw [if_neg (by decide), if_pos (show nI (kM 6) = 12 by decide)] at stM
      exact cond (Or.inr rfl) s stC stM
    · rw [if_neg (by decide), if_neg (by decide), if_neg (by decide), if_neg (by decide), pu_draw, if_pos (show nI 8 = 8 from rfl), vals 0 (by omega)] at stC
      rw [if_neg (by decide), if_neg (by decide), if_neg (by decide), s, sub1 0, show nI 0 = 0 from rfl, if_pos i0, z0, ax_let, if_pos (show nI (kM 8) = 14 by decide), nI_1] at stM
      exact drawn _ _ (pu_cls hN1) stC stM
    · rw [if_neg (by decide), if_neg (by decide), if_neg (by decide), if_neg (by decide), pu_draw, if_neg (by decide), if_pos (show nI 9 = 9 from rfl), vals 0 (by omega), vals 1 (by omega), vals 2 (by omega)] at stC
      rw [if_neg (by decide), if_neg (by decide), if_neg (by decide), s, sub1 2, show nI 2 = 2 from rfl, if_pos i2, z2, ax_let, if_neg (by decide), if_pos (show nI (kM 9) = 15 by decide), if_pos i0, if_pos i1, z0, z1, nI_1] at stM
      exact drawn _ _ (pu_paint2 env1.2.2.1) stC stM
    · rw [if_neg (by decide), if_neg (by decide), if_neg (by decide), if_neg (by decide), pu_draw, if_neg (by decide), if_neg (by decide), if_pos (show nI 10 = 10 from rfl), vals 0 (by omega), vals 1 (by omega), vals 2 (by omega), vals 3 (by omega), vals 4 (by omega)] at stC
      rw [if_neg (by decide), if_neg (by decide), if_neg (by decide), s, sub1 4, show nI 4 = 4 from rfl, if_pos i4, z4, ax_let, if_neg (by decide), if_neg (by decide), if_neg (by decide), if_pos i0, if_pos i1, if_pos i2, if_pos i3, z0, z1, z2, z3, nI_1] at stM
      exact drawn _ _ (pu_line (by omega) (cIn_fl _) (cIn_fl _) (cIn_fl _) (cIn_fl _) env1.2.2.1) stC stM
    · rw [if_neg (by decide), if_neg (by decide), if_neg (by decide), if_neg (by decide), pu_draw, if_neg (by decide), if_neg (by decide), if_neg (by decide), if_pos (show nI 11 = 11 from rfl), vals 0 (by omega), vals 1 (by omega), vals 2 (by omega), vals 3 (by omega), vals 4 (by omega)] at stC
      rw [if_neg (by decide), if_neg (by decide), if_neg (by decide), s, sub1 4, show nI 4 = 4 from rfl, if_pos i4, z4, ax_let, if_neg (by decide), if_neg (by decide), if_pos (show nI (kM 11) = 17 by decide), if_pos i0, if_pos i1, if_pos i2, if_pos i3, z0, z1, z2, z3, nI_1] at stM
      exact drawn _ _ (pu_box (by omega) (cIn_fl _) (cIn_fl _) (cIn_fl _) (cIn_fl _) env1.2.2.1) stC stM
    · rw [if_neg (by decide), if_neg (by decide), if_neg (by decide), if_pos (show nI 12 = 12 from rfl), vals 0 (by omega), vals 1 (by omega)] at stC
      rw [if_neg (by decide), if_neg (by decide), if_pos (show nI (kM 12) = 18 by decide), if_pos i0, z0, ax_let, if_pos i1, z1, nI_1] at stM
      generalize (τ1.2 15 0 >>> (16 &&& 31) : Int32) = b at stC stM
      rw [J_Machine_writeCell] at stC
      by_cases q1 : b < 0
      · rw [if_pos q1, ax_bsV] at stC
        rw [if_pos q1] at stM
        exact ⟨l + 1, σ1, τ1, by omega, stC, stM, w4.h, fr1.h, env1, w3, hi3, g6, g7⟩
      rw [if_neg q1] at stC stM
      by_cases q2 : 32 ≤ b
      · rw [if_pos q2, ax_bsV] at stC
        rw [if_pos q2] at stM
        exact ⟨l + 1, σ1, τ1, by omega, stC, stM, w4.h, fr1.h, env1, w3, hi3, g6, g7⟩
      rw [if_neg q2] at stC stM
      obtain ⟨j, hj, rfl⟩ : ∃ j : Nat, j < 32 ∧ b = nI j := by
        rcases pk_ix b (n := 32) (by decide) with w | w | w
        · exact absurd w q1
        · exact absurd w q2
        · exact w
      rw [if_pos (pu_inB hj (by decide)), nI_clamp (by omega), ax_let, ax_bsV] at stC
      rw [if_pos (pu_inB hj (by decide)), nI_clamp (by omega), ax_let] at stM
      refine ⟨l + 1, _, _, by omega, stC, stM, w4.h.tr ⟨fun _ _ _ => rfl, fun k _ b _ _ => sA_ne _ _ _ b⟩, fr1.h.tr ⟨fun _ _ _ _ _ _ _ => rfl, fun k _ b _ _ _ _ _ => sA_ne _ _ _ b⟩, ⟨?_, fun k hk => ?_, ?_, ?_⟩, w3, hi3, g6, g7⟩
      · rw [sA_ne _ _ _ (by decide), sA_ne _ _ _ (by decide)]; exact env1.1
      · rw [sA_self, sA_self]
        by_cases z : k = j
        · rw [z, pk_us, pk_us]
        · rw [pk_un z, pk_un z]
          exact env1.2.1 k hk
      · rw [sA_ne _ _ _ (by decide), sA_ne _ _ _ (by decide)]; exact env1.2.2.1
      · rw [sA_ne _ _ _ (by decide), sA_ne _ _ _ (by decide)]; exact env1.2.2.2
