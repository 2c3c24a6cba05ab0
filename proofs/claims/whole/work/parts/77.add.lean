/-! PURE ROWS 28: a line is added, on both sides. -/
theorem sC_self (σ : St) (k0 k1 a d n : Nat) : (sC σ k0 k1 a d n).2 k1 = va_cpy (σ.2 k0) (σ.2 k1) a d n := va_up_self _ _ _
theorem sC_ne (σ : St) {k0 k1 k : Nat} (a d n : Nat) (h : k ≠ k1) : (sC σ k0 k1 a d n).2 k = σ.2 k := va_up_ne _ _ h
theorem cpB_ok {d e : Nat} (h1 : e ≤ 16) (h2 : d + e ≤ 448) : cpB 0 (nI d) (nI e) 48 448 = true := by
  have a : ¬ nI d < 0 := nI_pos (by omega)
  have b : ¬ nI e < 0 := nI_pos (by omega)
  have c : ¬ (0 : Int32) < 0 := by decide
  unfold cpB
  rw [nI_clamp (by omega), nI_clamp (by omega), show (0 : Int32).toNatClampNeg = 0 from rfl, decide_eq_false a, decide_eq_false b, decide_eq_false c, decide_eq_true (show 0 + e ≤ 48 by omega), decide_eq_true h2]
  rfl
theorem pc_app {N n e : Nat} {σ : St} (h16 : σ.1 16 = nI n) (hn : n < 28) (h10 : σ.1 10 = nI e) (he : e ≤ 16) : ∃ σ2 : St, J_Program_append_9 N σ = some σ2 ∧ σ2.1 16 = nI (n + 1) ∧ (∀ k, k ≠ 16 → σ2.1 k = σ.1 k) ∧ (∀ k, k < 12 ∨ 16 < k → σ2.2 k = σ.2 k) ∧ σ2.2 12 = upd (σ.2 12) n (σ.1 8) ∧ σ2.2 13 = upd (σ.2 13) n (σ.1 9) ∧ σ2.2 14 = upd (σ.2 14) n (nI e) ∧ σ2.2 15 = va_cpy (σ.2 6) (σ.2 15) 0 (16 * n) e ∧ σ2.2 16 = va_cpy (σ.2 7) (σ.2 16) 0 (16 * n) e := by
  have hb : inB (nI n) 28 = true := pu_inB hn (by decide)
  have e16 : nI n * 16 = nI (16 * n) := by rw [show (16 : Int32) = nI 16 from rfl, pk_mul, Nat.mul_comm]
  generalize start : J_Program_append_9 N σ = X
  rw [J_Program_append_9, h16, if_pos hb, nI_clamp (by omega), ax_let, show (sA σ 12 n (σ.1 8)).1 16 = nI n from h16, if_pos hb, nI_clamp (by omega), ax_let, show (sA (sA σ 12 n (σ.1 8)) 13 n ((sA σ 12 n (σ.1 8)).1 9)).1 16 = nI n from h16, if_pos hb, nI_clamp (by omega), ax_let] at start
  have z9 : (sA σ 12 n (σ.1 8)).1 9 = σ.1 9 := rfl
  have z10 : (sA (sA σ 12 n (σ.1 8)) 13 n (σ.1 9)).1 10 = nI e := h10
  rw [z9, z10] at start
  generalize hs3 : sA (sA (sA σ 12 n (σ.1 8)) 13 n (σ.1 9)) 14 n (nI e) = σ3 at start
  have a16 : σ3.1 16 = nI n := by rw [← hs3]; exact h16
  have a10 : σ3.1 10 = nI e := by rw [← hs3]; exact h10
  have hcp := cpB_ok (d := 16 * n) he (by omega)
  rw [a16, e16, ax_let, a10, if_pos hcp, nI_clamp (by omega), nI_clamp (by omega), show (0 : Int32).toNatClampNeg = 0 from rfl, ax_let, show (sC σ3 6 15 0 (16 * n) e).1 10 = nI e from a10, if_pos hcp, nI_clamp (by omega), ax_let, show (sC (sC σ3 6 15 0 (16 * n) e) 7 16 0 (16 * n) e).1 16 = nI n from a16, nI_1, ax_let] at start
  have f3 : ∀ k, k ≠ 12 → k ≠ 13 → k ≠ 14 → σ3.2 k = σ.2 k := fun k a b c => by rw [← hs3, sA_ne _ _ _ c, sA_ne _ _ _ b, sA_ne _ _ _ a]
  have fk : ∀ k, k ≠ 15 → k ≠ 16 → (sF (sC (sC σ3 6 15 0 (16 * n) e) 7 16 0 (16 * n) e) 16 (nI (n + 1))).2 k = σ3.2 k := fun k a b => by
    show (sC (sC σ3 6 15 0 (16 * n) e) 7 16 0 (16 * n) e).2 k = _
    rw [sC_ne _ _ _ _ b, sC_ne _ _ _ _ a]
  refine ⟨_, start.symm, rfl, fun k a => ?_, fun k a => ?_, ?_, ?_, ?_, ?_, ?_⟩
  · show upd (sC (sC σ3 6 15 0 (16 * n) e) 7 16 0 (16 * n) e).1 16 _ k = _
    rw [pk_un a]
    show σ3.1 k = _
    rw [← hs3]
    rfl
  · rw [fk k (by omega) (by omega), f3 k (by omega) (by omega) (by omega)]
  · rw [fk 12 (by decide) (by decide), ← hs3, sA_ne _ _ _ (by decide), sA_ne _ _ _ (by decide), sA_self]
  · rw [fk 13 (by decide) (by decide), ← hs3, sA_ne _ _ _ (by decide), sA_self, sA_ne _ _ _ (by decide)]
  · rw [fk 14 (by decide) (by decide), ← hs3, sA_self, sA_ne _ _ _ (by decide), sA_ne _ _ _ (by decide)]
  · show (sC (sC σ3 6 15 0 (16 * n) e) 7 16 0 (16 * n) e).2 15 = _
    rw [sC_ne _ _ _ _ (by decide), sC_self, f3 6 (by decide) (by decide) (by decide), f3 15 (by decide) (by decide) (by decide)]
  · show (sC (sC σ3 6 15 0 (16 * n) e) 7 16 0 (16 * n) e).2 16 = _
    rw [sC_self, sC_ne _ _ _ _ (by decide), sC_ne _ _ _ _ (by decide), f3 7 (by decide) (by decide) (by decide), f3 16 (by decide) (by decide) (by decide)]
theorem pm_start {N T : Nat} {τ τ1 τ3 : St} {r : Int32} (h4 : τ.1 4 = 0) (hc : J_Mod_cut N (sF τ 2 (-1)) = some τ1) (hg : J_Mod_good N τ1 = some (r, τ3)) (hT : τ3.2 4 28 = nI T) : J_Mod_add N τ = (if nI T ≤ r then J_Mod_add_62 N r τ3 else if 0 ≤ r then (if (inB r 49) = true then J_Mod_add_59 N (τ3.2 3 r.toNatClampNeg) r τ3 else none) else J_Mod_add_59 N (τ.1 0) r τ3) := by
  rw [J_Mod_add, ax_let, ax_let, if_pos (show (sF τ 2 (-1)).1 4 = 0 from h4), hc, ax_bsV, hg, ax_bs, if_pos (by decide), show (28 : Int32).toNatClampNeg = 28 from rfl, hT]
  rfl
theorem pm_59 {N T : Nat} {pl r : Int32} {τ : St} (hT : τ.2 4 28 = nI T) (hr : ¬ nI T ≤ r) : J_Mod_add_59 N pl r τ = some (-3, sF (sF τ 2 pl) 0 0) := by
  rw [J_Mod_add_59, ax_let, J_Mod_add_62, ax_let, if_pos (by decide), show (28 : Int32).toNatClampNeg = 28 from rfl, show (sF (sF τ 2 pl) 0 0).2 4 28 = nI T from hT, if_neg hr]
/-- the reference works a good line out, for nothing -/
theorem pm_ok {N k : Nat} {v : Int32} {ts E : List (Nat × Int32)} {τ : St} (hN1 : 300 ≤ N) (h48 : ts.length + 1 ≤ 48) (hT : τ.2 4 28 = nI (ts.length + 1)) (ht : tkM τ 1344 ((k, v) :: ts)) (hno : nmO ts) (hl : lr ((k, v) :: ts) = Sum.inr E) : ∃ (τ2 : St) (hs2 : List Nat) (hi2 : Nat), J_Mod_add_62 N (nI (ts.length + 1)) τ = addF N τ2 ∧ mFr (sF τ 0 0) τ2 ∧ τ2.1 11 = nI E.length ∧ τ2.1 12 = nI hi2 ∧ hi2 ≤ 60 ∧ exH E ([], 0) = some (hs2, hi2) ∧ τ2.1 5 = τ.1 5 := by
  obtain ⟨t1, t2, -, t4⟩ := ht
  have t2 : τ.2 1 1344 = nI (kM k) := t2
  generalize start : J_Mod_add_62 N (nI (ts.length + 1)) τ = X
  rw [J_Mod_add_62, ax_let, if_pos (by decide), show (28 : Int32).toNatClampNeg = 28 from rfl, show (sF τ 0 0).2 4 28 = nI (ts.length + 1) from hT, if_pos (Int32.le_refl _), ax_let, ax_let, if_pos (by decide), show (1344 : Int32).toNatClampNeg = 1344 from rfl, show (sF (sF (sF τ 0 0) 11 0) 12 0).2 1 1344 = nI (kM k) from t2] at start
  have fr0 : ∀ w : Int32, mFr (sF τ 0 0) (sF (sF (sF (sF τ 0 0) 11 0) 12 0) 10 w) := fun w => ⟨fun k _ _ _ a b c => by show upd (upd (upd (sF τ 0 0).1 11 0) 12 0) 10 w k = _; rw [pk_un a, pk_un c, pk_un b], fun _ _ _ _ => rfl⟩
  rcases lr_cases hl with ⟨rfl, v2, ts2, rfl, e2⟩ | ⟨a1, a2, a3, rfl, rfl⟩ | ⟨a1, a2, a3, e⟩
  · rw [if_pos (show nI (kM 3) = 2 by decide), J_Mod_add_108, ax_let, show (1344 : Int32) + 2 - 1 = nI 1345 by decide] at start
    simp only [List.length_cons] at h48 hT start
    obtain ⟨τ2, hs2, hi2, g1, g2, g3, g4, g5, g6, g7⟩ := pu_works (N := N) (T := ts2.length + 1 + 1) (fr := 2) (A := τ.2) hN1 h48 0 ts2 E 1345 0 (sF (sF (sF (sF τ 0 0) 11 0) 12 0) 10 (nI 1345)) N hT (by omega) (by omega) rfl (tkM.cg (τ := τ) (τ2 := sF (sF (sF (sF τ 0 0) 11 0) 12 0) 10 (nI 1345)) rfl rfl t4.2.2.2) hno.2 e2 ⟨rfl, rfl, rfl, rfl⟩ rfl (by omega) (Or.inl rfl) (by omega)
    have g1 : J_Mod_add_120 N N 2 (sF (sF (sF (sF τ 0 0) 11 0) 12 0) 10 (nI 1345)) = addF N τ2 := g1
    refine ⟨τ2, hs2, hi2, by rw [← start]; exact g1, (fr0 _).tr g2, ?_, g4, g5, ?_, g7⟩
    · rw [g3]
      show 0 + nI E.length = _
      rw [Int32.zero_add]
    · have := g6 []
      rw [List.append_nil, List.append_nil] at this
      exact this
  · rw [if_neg (show ¬ nI (kM k) = 2 from (by decide : ∀ k, k ≤ 12 → 4 ≤ k → ¬ nI (kM k) = 2) k a2 a1), J_Mod_add_108, ax_let, show (1344 : Int32) + 1 - 1 = nI 1344 by decide] at start
    obtain ⟨N, rfl⟩ : ∃ j, N = j + 1 := ⟨N - 1, by omega⟩
    rw [J_Mod_add_120, if_pos (by decide), if_pos rfl, if_pos (by decide), show (1344 : Int32).toNatClampNeg = 1344 from rfl, show (28 : Int32).toNatClampNeg = 28 from rfl, show (sF (sF (sF (sF τ 0 0) 11 0) 12 0) 10 (nI 1344)).2 1 1344 = nI (kM k) from t2, pu_wants a1 a2, ax_bs, a3, if_pos (show nI 0 = 0 from rfl), show (sF (sF (sF (sF τ 0 0) 11 0) 12 0) 10 (nI 1344)).2 4 28 = nI 1 from hT, J_Mod_add_159, show (sF (sF (sF (sF τ 0 0) 11 0) 12 0) 10 (nI 1344)).1 10 = nI 1344 from rfl, if_pos (by decide)] at start
    exact ⟨_, [], 0, start.symm, fr0 _, rfl, rfl, by omega, rfl, rfl⟩
  · rw [if_neg (show ¬ nI (kM k) = 2 from (by decide : ∀ k, k ≤ 12 → 4 ≤ k → ¬ nI (kM k) = 2) k a2 a1), J_Mod_add_108, ax_let, show (1344 : Int32) + 1 - 1 = nI 1344 by decide] at start
    have h5 := @sp_le k
    obtain ⟨τ2, hs2, hi2, g1, g2, g3, g4, g5, g6, g7⟩ := pu_works (N := N) (T := ts.length + 1) (fr := 1) (A := τ.2) hN1 h48 (sp k - 1) ts E 1344 0 (sF (sF (sF (sF τ 0 0) 11 0) 12 0) 10 (nI 1344)) N hT (by omega) (by omega) rfl (tkM.cg (τ := τ) (τ2 := sF (sF (sF (sF τ 0 0) 11 0) 12 0) 10 (nI 1344)) rfl rfl t4) hno e ⟨rfl, rfl, rfl, rfl⟩ rfl (by omega) (Or.inr ⟨rfl, nI (sp k), nI_ne0 (by omega) (by omega), fun s hs => by rw [hs]; show J_Mod_wants N (τ.2 1 1344) s = _; rw [t2]; exact pu_wants a1 a2⟩) (by omega)
    have g1 : J_Mod_add_120 N N 1 (sF (sF (sF (sF τ 0 0) 11 0) 12 0) 10 (nI 1344)) = addF N τ2 := g1
    refine ⟨τ2, hs2, hi2, by rw [← start]; exact g1, (fr0 _).tr g2, ?_, g4, g5, ?_, g7⟩
    · rw [g3]
      show 0 + nI E.length = _
      rw [Int32.zero_add]
    · have := g6 []
      rw [List.append_nil, List.append_nil] at this
      exact this
theorem opC_nm {id : Nat} (h : id < 12) : opC (3, nI id) = nI id := by
  show (if nI id < 12 then nI id else 0) = _
  rw [if_pos (show nI id < 12 from nI_lt (b := 12) h (by decide))]
theorem neg_le {T : Nat} (h : T ≤ 48) : ¬ nI T ≤ -1 - nI T ∧ ¬ 0 ≤ -1 - nI T := by
  have : ∀ T, T ≤ 48 → ¬ nI T ≤ -1 - nI T ∧ ¬ 0 ≤ -1 - nI T := by decide +kernel
  exact this T h
set_option maxHeartbeats 1000000 in
theorem pu_add {N : Nat} {σ τ : St} (hN1 : 300 ≤ N) (h : rel σ τ) : ∃ (r : Int32) (σ2 τ2 : St), J_Con_add N σ = some (r, σ2) ∧ J_Mod_add N τ = some (r, τ2) ∧ rel σ2 τ2 := by
  obtain ⟨g1, g2, g3, g4, g5, ⟨n, p1, p2, p3, p4, p5⟩, gE, gS, gh⟩ := id h
  by_cases hs : σ.1 17 = 0
  case neg =>
    refine ⟨-1, sF (sF σ 0 (-1)) 1 0, sF (sF τ 2 (-1)) 0 0, ?_, ?_, ?_⟩
    · rw [J_Con_add, if_neg hs, J_Con_add_39, if_neg (by decide), pc_57 (by decide)]
    · rw [J_Mod_add, ax_let, ax_let, if_neg (show ¬ (sF τ 2 (-1)).1 4 = 0 by show ¬ τ.1 4 = 0; rw [← g5]; exact hs), ax_let]
    · exact h.keep rfl rfl g2 rfl (fun k a => by show upd (upd σ.1 0 (-1)) 1 0 k = _; rw [pk_un (by omega), pk_un (by omega)]) (fun _ _ => rfl) rfl rfl rfl rfl rfl gh (fun _ _ => rfl) (fun _ _ => ⟨rfl, rfl⟩) (fun _ _ => rfl)
  have hs4 : τ.1 4 = 0 := by rw [← g5]; exact hs
  -- the text, the names
  obtain ⟨nt, q1, q2, q3, q4⟩ := g1
  obtain ⟨n0, V0, r1, r2, r3, r4⟩ := g2.v
  have hC : tC σ nt (fun j => (σ.2 1 j).toNatClampNeg) := ⟨q1, q2, fun j hj => by
    obtain ⟨-, c, c1, c2, c3⟩ := q4 j hj
    show σ.2 1 j = nI (σ.2 1 j).toNatClampNeg ∧ 32 ≤ (σ.2 1 j).toNatClampNeg ∧ (σ.2 1 j).toNatClampNeg ≤ 126
    rw [c3, nI_clamp (by omega)]
    exact ⟨rfl, c1, c2⟩⟩
  have hM : tM (sF τ 2 (-1)) nt (fun j => (σ.2 1 j).toNatClampNeg) := ⟨q1, q3, fun j hj => by
    obtain ⟨c0, c, c1, c2, c3⟩ := q4 j hj
    show τ.2 0 j = nI (σ.2 1 j).toNatClampNeg ∧ 32 ≤ (σ.2 1 j).toNatClampNeg ∧ (σ.2 1 j).toNatClampNeg ≤ 126
    rw [← c0, c3, nI_clamp (by omega)]
    exact ⟨rfl, c1, c2⟩⟩
  obtain ⟨σ1, τ1, V, B, ts, k1, k2, k3, k4, s1, s2, s3, s4, s5, s6, s7, s8, s9, s10, s11, s12, s13⟩ := pu_cut (N := N) (V0 := V0) (τ := sF τ 2 (-1)) hN1 hC hM g3 r1 r3 (fun k hk => ⟨(r4 k hk).1, (r4 k hk).2.2⟩)
  have b4 : σ1.1 4 = nI n0 := (k3.1 4 (by decide) (by decide)).trans r2
  have b5 : ∀ k, k < n0 → σ1.2 5 k = nI (encW (V k)) := fun k hk => by rw [k3.2 5 (by decide) (by decide) (by decide), (r4 k hk).2.1, s6 k hk]
  have hrd := pu_read (N := N) (by omega) s4 s1 r1 b4 b5 s7
  obtain ⟨τ3, hg, he⟩ := pu_good (N := N) (by omega) s1 s10 s8
  have hT3 : τ3.2 4 28 = nI ts.length := by rw [he.2 4 (by decide)]; exact s10
  have hst := pm_start hs4 k2 hg hT3
  have hcs : J_Con_add N σ = ax_bind (J_LineReader_readLine N σ1) (fun r1 σ2 => (if r1 = 0 then J_Con_add_38 N (-3) σ2 else ax_bind (J_Con_answerToStatement N σ2) (fun r2 σ3 => J_Con_add_38 N r2 σ3))) := by
    rw [J_Con_add, if_pos hs, k1, ax_bsV]
  -- what stays in the reference
  have m0 : ∀ k, k ≠ 2 → k ≠ 13 → τ3.1 k = τ.1 k := fun k a b => by
    rw [he.1, k4.1 k b]
    show upd τ.1 2 (-1) k = _
    rw [pk_un a]
  have mA : ∀ k, k ≠ 1 → k ≠ 2 → k ≠ 3 → k ≠ 4 → k ≠ 6 → k ≠ 14 → τ3.2 k = τ.2 k := fun k a b c d e f => by rw [he.2 k f, k4.2.1 k a b c d e]; rfl
  have mB : ∀ x, x < 1344 → τ3.2 1 x = τ.2 1 x ∧ τ3.2 2 x = τ.2 2 x := fun x hx => by rw [he.2 1 (by decide), he.2 2 (by decide)]; exact k4.2.2.1 x hx
  have mC : ∀ x, x < 28 → τ3.2 4 x = τ.2 4 x := fun x hx => by rw [he.2 4 (by decide)]; exact k4.2.2.2.1 x (by omega)
  have m6 : τ3.2 6 = τ1.2 6 := he.2 6 (by decide)
  have mR : ∀ k, k < n0 → rowIs (τ3.2 6) k (V k) := fun k hk => by rw [m6]; exact s5 k (by omega)
  have m2 : τ3.1 2 = -1 := by
    rw [he.1, k4.1 2 (by decide)]
    rfl
  have m13 : τ3.1 13 = nI B := by rw [he.1]; exact s11
  cases hR : lr ts with
  | inl i =>
    rw [hR] at hrd hst
    obtain ⟨σ2, b2, w1, w2, w3, w4, w5⟩ := hrd
    have hi : i ≤ ts.length := lr_le hR
    have hcc : J_Con_add N σ = some (-3, sF (sF σ2 0 (σ2.2 3 i)) 1 0) := by
      rw [hcs, w1, ax_bs, if_pos rfl, J_Con_add_38, J_Con_add_39, if_pos rfl, J_LineReader_wrongPlace, w2, if_pos (pu_inB (by omega) (by decide)), nI_clamp (by omega), ax_bs, pc_57 (by decide)]
    have e3 : σ2.2 3 i = σ1.2 3 i := by rw [w3.2 3 (by omega)]
    have fin : ∀ pl : Int32, pl = σ1.2 3 i → rel (sF (sF σ2 0 (σ2.2 3 i)) 1 0) (sF (sF τ3 2 pl) 0 0) := by
      intro pl hpl
      have fC : ∀ k, 15 < k → (sF (sF σ2 0 (σ2.2 3 i)) 1 0).1 k = σ.1 k := fun k a => by
        show upd (upd σ2.1 0 _) 1 0 k = _
        rw [pk_un (by omega), pk_un (by omega), w3.1 k (by omega), k3.1 k (by omega) (by omega)]
      have fM : ∀ k, k ≠ 0 → k ≠ 2 → k ≠ 13 → (sF (sF τ3 2 pl) 0 0).1 k = τ.1 k := fun k a b c => by
        show upd (upd τ3.1 2 pl) 0 0 k = _
        rw [pk_un a, pk_un b, m0 k b c]
      refine h.keep rfl rfl ?_ ?_ fC (fun k a => ?_) (fM 1 (by decide) (by decide) (by decide)) (fM 4 (by decide) (by decide) (by decide)) (fM 5 (by decide) (by decide) (by decide)) (fM 6 (by decide) (by decide) (by decide)) (fM 7 (by decide) (by decide) (by decide)) (by rw [fM 12 (by decide) (by decide) (by decide)]; exact gh) (fun k a => mA k (by omega) (by omega) (by omega) (by omega) (by omega) (by omega)) mB mC
      · refine rNV.n (n0 := n0) (V0 := V) ⟨r1, ?_, ?_, fun k hk => ⟨s4 k, ?_, mR k hk⟩⟩
        · show σ2.1 4 = _
          rw [w3.1 4 (by omega)]
          exact b4
        · rw [fM 3 (by decide) (by decide) (by decide)]
          exact r3
        · exact w4.2.2 k (by omega)
      · show σ2.2 3 i = pl
        rw [hpl, e3]
      · show σ2.2 k = _
        rw [w3.2 k (by omega), k3.2 k (by omega) (by omega) (by omega)]
    by_cases q : i = ts.length
    · have hr : gR ts.length 0 ts.length (Sum.inl i) = -1 - nI ts.length := by
        show (if i = ts.length then -1 - nI ts.length else nI (0 + i)) = _
        rw [if_pos q]
      obtain ⟨y1, y2⟩ := neg_le s1
      rw [hr, if_neg y1, if_neg y2, pm_59 hT3 y1] at hst
      refine ⟨-3, _, _, hcc, hst, fin _ ?_⟩
      rcases s13 with ⟨ts0, v, z⟩ | z
      · obtain ⟨j, j1, j2⟩ := lr_bad z
        rw [hR] at j1
        simp only [Sum.inl.injEq] at j1
        omega
      · rw [q, z]
        exact q3
    · have hr : gR ts.length 0 ts.length (Sum.inl i) = nI i := by
        show (if i = ts.length then -1 - nI ts.length else nI (0 + i)) = _
        rw [if_neg q, Nat.zero_add]
      have y1 : ¬ nI ts.length ≤ nI i := nI_ge (by omega) (by omega)
      rw [hr, if_neg y1, if_pos (nI_pos' (by omega)), if_pos (pu_inB (by omega) (by decide)), nI_clamp (by omega), pm_59 hT3 y1] at hst
      refine ⟨-3, _, _, hcc, hst, fin _ ?_⟩
      rw [he.2 3 (by decide)]
      exact (s12 i (by omega)).symm
  | inr E =>
    rw [hR] at hrd hst
    obtain ⟨σ2, hs2, hi2, w1, w2, w3, w4, w5, w6, w7, w8⟩ := hrd
    cases ts with
    | nil => exact absurd hR (by unfold lr; simp)
    | cons t ts =>
    obtain ⟨k, v⟩ := t
    have w7 : σ2.1 8 = nI k := w7
    have w8 : k = 3 → σ2.1 9 = opC (3, v) := w8
    simp only [List.length_cons] at s1 s10 hT3 hst
    have hEl := lr_len hR
    rw [show gR (ts.length + 1) 0 (ts.length + 1) (Sum.inr E) = nI (ts.length + 1) from rfl, if_pos (Int32.le_refl _)] at hst
    have ht3 : tkM τ3 1344 ((k, v) :: ts) := s8.e he
    obtain ⟨τ5, hs3, hi3, x1, x2, x3, x4, x5, x6, x7⟩ := pm_ok (N := N) hN1 s1 hT3 ht3 (nmO_of (b := B) (by simp only [List.length_cons] at s3; omega) ts (fun t ht => s9 t (List.mem_cons_of_mem _ ht))) hR
    rw [w6] at x6
    simp only [Option.some.injEq, Prod.mk.injEq] at x6
    obtain ⟨-, x6⟩ := x6
    subst x6
    simp only [List.length_cons] at s3
    have n6 : ∀ k, k ≠ 0 → k ≠ 2 → k ≠ 5 → k ≠ 8 → k ≠ 9 → k ≠ 10 → k ≠ 11 → k ≠ 12 → k ≠ 13 → τ5.1 k = τ.1 k := fun k a1 a2 a3 a4 a5 a6 a7 a8 a9 => by
      rw [x2.1 k a3 a4 a5 a6 a7 a8]
      show upd τ3.1 0 0 k = _
      rw [pk_un a1, m0 k a2 a9]
    have n13 : τ5.1 13 = nI B := (x2.1 13 (by decide) (by decide) (by decide) (by decide) (by decide) (by decide)).trans m13
    have n0' : τ5.1 0 = 0 := x2.1 0 (by decide) (by decide) (by decide) (by decide) (by decide) (by decide)
    have n2 : τ5.1 2 = -1 := (x2.1 2 (by decide) (by decide) (by decide) (by decide) (by decide) (by decide)).trans m2
    have n5 : τ5.1 5 = τ.1 5 := x7.trans (m0 5 (by decide) (by decide))
    have n1 : τ5.1 1 = nI n := (n6 1 (by decide) (by decide) (by decide) (by decide) (by decide) (by decide) (by decide) (by decide) (by decide)).trans p3
    have nA : ∀ k, k ≠ 12 → k ≠ 13 → k ≠ 14 → τ5.2 k = τ3.2 k := x2.2
    have c16 : σ2.1 16 = nI n := (w2.1 16 (by omega)).trans ((k3.1 16 (by decide) (by decide)).trans p2)
    have c10 : σ2.1 10 = nI E.length := by
      have := w5.1
      rw [List.length_reverse] at this
      exact this
    have hans := pc_ans (N := N) c10 w5.2.2.2.2.2.1 c16 w3.2.1 (by omega) (by omega) (by omega)
    have hF := pm_addF (N := N) x3 x4 n1 n13 (by omega) (by omega) (by omega) (by omega)
    rw [x1, hF] at hst
    rw [w1, ax_bs, if_neg (by decide), hans, ax_bs, J_Con_add_38, J_Con_add_39] at hcs
    have nR : ∀ k, k < B → rowIs (τ5.2 6) k (V k) := fun k hk => by rw [nA 6 (by decide) (by decide) (by decide), m6]; exact s5 k hk
    by_cases ok : E.length ≤ 16 ∧ hi2 ≤ 6 ∧ ¬ n = 28 ∧ B ≤ 12
    case neg =>
      rw [if_neg ok] at hst
      rw [if_neg ok, if_neg (by decide), pc_57 (by decide)] at hcs
      refine ⟨-2, _, _, hcs, hst, h.keep rfl n0' ?_ n2.symm (fun k a => ?_) (fun k a => ?_) (n1.trans p3.symm) (n6 4 (by decide) (by decide) (by decide) (by decide) (by decide) (by decide) (by decide) (by decide) (by decide)) n5 (n6 6 (by decide) (by decide) (by decide) (by decide) (by decide) (by decide) (by decide) (by decide) (by decide)) (n6 7 (by decide) (by decide) (by decide) (by decide) (by decide) (by decide) (by decide) (by decide) (by decide)) ⟨hi2, x5, x4⟩ (fun k a => ?_) (fun x hx => ?_) (fun x hx => ?_)⟩
      · refine rNV.n (n0 := n0) (V0 := V) ⟨r1, ?_, ?_, fun k hk => ⟨s4 k, ?_, nR k (by omega)⟩⟩
        · show σ2.1 4 = _
          rw [w2.1 4 (by omega)]
          exact b4
        · rw [n6 3 (by decide) (by decide) (by decide) (by decide) (by decide) (by decide) (by decide) (by decide) (by decide)]
          exact r3
        · exact w3.2.2 k (by omega)
      · show upd (upd σ2.1 0 _) 1 0 k = _
        rw [pk_un (by omega), pk_un (by omega), w2.1 k (by omega), k3.1 k (by omega) (by omega)]
      · show σ2.2 k = _
        rw [w2.2 k (by omega), k3.2 k (by omega) (by omega) (by omega)]
      · rw [nA k (by omega) (by omega) (by omega), mA k (by omega) (by omega) (by omega) (by omega) (by omega) (by omega)]
      · rw [nA 1 (by decide) (by decide) (by decide), nA 2 (by decide) (by decide) (by decide)]
        exact mB x hx
      · rw [nA 4 (by decide) (by decide) (by decide)]
        exact mC x hx
    obtain ⟨ok1, ok2, ok3, ok4⟩ := id ok
    have hn28 : n < 28 := by omega
    obtain ⟨τ6, y1, y2, y3, y4, y5, y6, y7, y8, y9⟩ := pm_222 (N := N) hn28 s1 N 0 τ5 (by omega) (by omega) n1 (by rw [nA 4 (by decide) (by decide) (by decide)]; exact hT3)
    rw [if_pos ok] at hst
    have hst : J_Mod_add N τ = some (nI (n + 1), τ6) := hst.trans y1
    have z12 : (sF (sF σ2 0 (-1)) 4 (σ2.1 5)).1 16 = nI n := c16
    have z10 : (sF (sF σ2 0 (-1)) 4 (σ2.1 5)).1 10 = nI E.length := c10
    obtain ⟨σ6, u1, u2, u3, u4, u5, u6, u7, u8, u9⟩ := pc_app (N := N) z12 hn28 z10 ok1
    have hne3 : ¬ nI (n + 1) = -3 := (by decide : ∀ n, n ≤ 28 → ¬ nI (n + 1) = -3) n (by omega)
    rw [if_pos ok, if_neg hne3, J_Con_add_57, ax_let, if_neg (nI_nle (by omega) (by omega)), J_Names_keepSeen, ax_let, ax_bsV] at hcs
    have hcs : J_Con_add N σ = some (nI (n + 1), sF σ6 1 0) := by
      rw [hcs]
      show ax_bindV (J_Program_append_9 N (sF (sF σ2 0 (-1)) 4 (σ2.1 5))) _ = _
      rw [u1, ax_bsV, J_Tokens_empty, ax_let, ax_bsV]
    have v0 : ∀ k, k ≠ 0 → k ≠ 1 → k ≠ 4 → k ≠ 16 → (sF σ6 1 0).1 k = σ2.1 k := fun k a b c d => by
      show upd σ6.1 1 0 k = _
      rw [pk_un b, u3 k d]
      show upd (upd σ2.1 0 (-1)) 4 _ k = _
      rw [pk_un c, pk_un a]
    have vC : ∀ k, 16 < k → (sF σ6 1 0).1 k = σ.1 k := fun k a => by rw [v0 k (by omega) (by omega) (by omega) (by omega), w2.1 k (by omega), k3.1 k (by omega) (by omega)]
    have vA : ∀ k, k = 0 ∨ 16 < k → (sF σ6 1 0).2 k = σ.2 k := fun k a => by
      show σ6.2 k = _
      rw [u4 k (by omega)]
      show σ2.2 k = _
      rw [w2.2 k (by omega), k3.2 k (by omega) (by omega) (by omega)]
    have vB : ∀ k, 11 < k → σ2.2 k = σ.2 k := fun k a => by rw [w2.2 k (by omega), k3.2 k (by omega) (by omega) (by omega)]
    have yM : ∀ k, k ≠ 0 → k ≠ 1 → k ≠ 2 → k ≠ 3 → k ≠ 5 → k ≠ 8 → k ≠ 9 → k ≠ 10 → k ≠ 11 → k ≠ 12 → k ≠ 13 → τ6.1 k = τ.1 k := fun k a0 a1 a2 a3 a5 a8 a9 a10 a11 a12 a13 => by rw [y4 k a1 a3, n6 k a0 a2 a5 a8 a9 a10 a11 a12 a13]
    have yA : ∀ k, k = 7 ∨ k = 8 ∨ k = 9 ∨ k = 10 ∨ k = 11 → τ6.2 k = τ.2 k := fun k a => by rw [y5 k (by omega) (by omega) (by omega) (by omega), nA k (by omega) (by omega) (by omega), mA k (by omega) (by omega) (by omega) (by omega) (by omega) (by omega)]
    have nm12 : ∀ t, t ∈ (k, v) :: ts → t.1 = 3 → ∃ id : Nat, id < 12 ∧ t.2 = nI id := fun t ht e => by
      obtain ⟨id, a, b⟩ := s9 t ht e
      exact ⟨id, by omega, b⟩
    have old : ∀ l, l < n → lnR (sF σ6 1 0) τ6 l := fun l hl => by
      refine (p4 l hl).cg ?_ ?_ (fun j hj => ⟨?_, ?_⟩) ?_ ?_ ?_ (fun j hj => ⟨?_, ?_⟩)
      · rw [y6, pk_un (by omega), nA 4 (by decide) (by decide) (by decide), mC l (by omega)]
      · rw [y7, pk_un (by omega), nA 5 (by decide) (by decide) (by decide), mA 5 (by decide) (by decide) (by decide) (by decide) (by decide) (by decide)]
      · rw [y8, if_neg (by omega), nA 1 (by decide) (by decide) (by decide), (mB _ (by omega)).1]
      · rw [y9, if_neg (by omega), nA 2 (by decide) (by decide) (by decide), (mB _ (by omega)).2]
      · show σ6.2 12 l = _
        rw [u5, pk_un (by omega)]
        show σ2.2 12 l = _
        rw [vB 12 (by omega)]
      · show σ6.2 13 l = _
        rw [u6, pk_un (by omega)]
        show σ2.2 13 l = _
        rw [vB 13 (by omega)]
      · show σ6.2 14 l = _
        rw [u7, pk_un (by omega)]
        show σ2.2 14 l = _
        rw [vB 14 (by omega)]
      · show σ6.2 15 (16 * l + j) = _
        rw [u8, pk_cpy_out (Or.inl (by omega))]
        show σ2.2 15 _ = _
        rw [vB 15 (by omega)]
      · show σ6.2 16 (16 * l + j) = _
        rw [u9, pk_cpy_out (Or.inl (by omega))]
        show σ2.2 16 _ = _
        rw [vB 16 (by omega)]
    have new : lnR (sF σ6 1 0) τ6 n := by
      refine ⟨k, v, ts, E, ?_, s1, ?_, nm12, hR, ok1, ?_, fun k3 => ?_, ?_, ?_, ?_, ?_⟩
      · rw [y6, pk_us]
      · refine ht3.sh (fun j hj => ?_)
        simp only [List.length_cons] at hj
        rw [y8, y9, if_pos (by omega), if_pos (by omega), show 48 * n + j - 48 * n = j by omega, nA 1 (by decide) (by decide) (by decide), nA 2 (by decide) (by decide) (by decide)]
        exact ⟨rfl, rfl⟩
      · show σ6.2 12 n = _
        rw [u5, pk_us]
        exact w7
      · show σ6.2 13 n = _
        rw [u6, pk_us]
        show σ2.1 9 = _
        rw [w8 k3]
        obtain ⟨id, a, b⟩ := nm12 (k, v) (List.mem_cons_self ..) k3
        have b : v = nI id := b
        rw [b]
        exact opC_nm a
      · show σ6.2 14 n = _
        rw [u7, pk_us]
      · rw [y7, pk_us]
        exact x3
      · have a := w5.2.1
        rw [← List.append_nil E.reverse] at a
        refine sq1.sh a.sq (fun j hj => ?_)
        show σ6.2 15 (16 * n + j) = σ2.2 6 (([] : List (Nat × Int32)).length + j)
        rw [u8, pk_cpy_in (by omega) (by omega)]
        show σ2.2 6 (0 + (16 * n + j - 16 * n)) = σ2.2 6 (0 + j)
        rw [show 16 * n + j - 16 * n = j by omega]
      · have a := w5.2.2.1
        rw [← List.append_nil E.reverse] at a
        refine sq1.sh a.sq (fun j hj => ?_)
        show σ6.2 16 (16 * n + j) = σ2.2 7 (([] : List (Nat × Int32)).length + j)
        rw [u9, pk_cpy_in (by omega) (by omega)]
        show σ2.2 7 (0 + (16 * n + j - 16 * n)) = σ2.2 7 (0 + j)
        rw [show 16 * n + j - 16 * n = j by omega]
    obtain ⟨e1, e2, e3, e4⟩ := gE
    obtain ⟨f1, f2, f3⟩ := gS
    refine ⟨nI (n + 1), _, _, hcs, hst, ?_, ?_, ?_, ?_, ?_, ⟨n + 1, by omega, u2, y2, fun l hl => ?_, Or.inl ?_⟩, ⟨?_, ?_, ?_, ?_⟩, ⟨?_, ?_, ?_⟩, hi2, x5, ?_⟩
    · rw [show (sF σ6 1 0).1 1 = 0 from rfl, show τ6.1 0 = 0 by rw [y4 0 (by decide) (by decide)]; exact n0']
      exact rT_nil
    · refine rNV.n (n0 := B) (V0 := V) ⟨ok4, ?_, ?_, fun k hk => ⟨s4 k, ?_, ?_⟩⟩
      · show σ6.1 4 = _
        rw [u3 4 (by decide)]
        show σ2.1 5 = _
        rw [w3.1, Nat.min_eq_left ok4]
      · rw [y3]
        exact n13
      · show σ6.2 5 k = _
        rw [u4 5 (by omega)]
        exact w3.2.2 k (by omega)
      · rw [y5 6 (by decide) (by decide) (by decide) (by decide)]
        exact nR k hk
    · rw [vA 0 (by omega)]
      exact g3
    · show σ6.1 0 = _
      rw [u3 0 (by decide), y4 2 (by decide) (by decide), n2]
      rfl
    · rw [vC 17 (by omega), yM 4 (by decide) (by decide) (by decide) (by decide) (by decide) (by decide) (by decide) (by decide) (by decide) (by decide) (by decide)]
      exact g5
    · by_cases q : l = n
      · rw [q]; exact new
      · exact old l (by omega)
    · rw [vC 17 (by omega)]
      exact hs
    · rw [vA 19 (by omega), yA 7 (by omega)]; exact e1
    · rw [vA 20 (by omega), yA 9 (by omega)]; exact e2
    · rw [vA 22 (by omega), yA 10 (by omega)]; exact e3
    · rw [vA 23 (by omega), yA 11 (by omega)]; exact e4
    · rw [vC 19 (by omega), y4 5 (by decide) (by decide), n5]; exact f1
    · rw [vC 20 (by omega), yM 6 (by decide) (by decide) (by decide) (by decide) (by decide) (by decide) (by decide) (by decide) (by decide) (by decide) (by decide)]; exact f2
    · rw [vC 21 (by omega), yM 7 (by decide) (by decide) (by decide) (by decide) (by decide) (by decide) (by decide) (by decide) (by decide) (by decide) (by decide)]; exact f3
    · rw [y4 12 (by decide) (by decide)]; exact x4
