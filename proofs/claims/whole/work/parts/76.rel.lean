/-! PURE ROWS 27: what holds between the console and the reference; small steps that keep it. -/
theorem run_len : ∀ (L : Nat) (ts : List (Nat × Int32)) (ws : List (Nat × Nat)) (o m : Nat) (E : List (Nat × Int32)), ts.length ≤ L → m ≤ 1 → allW ws → srt ws → run ts ws o m = Sum.inr E → E.length ≤ ts.length + ws.length := by
  intro L
  induction L with
  | zero =>
    intro ts ws o m E hL _ _ _ h
    have h0 : ts = [] := List.length_eq_zero_iff.mp (by omega)
    subst h0
    rw [run_nil] at h
    split at h
    · simp only [Sum.inr.injEq] at h
      have := unw_len 1 ws
      rw [← h]
      omega
    · exact absurd h (by simp)
  | succ L ih =>
    intro ts ws o m E hL hm ha hs h
    cases ts with
    | nil =>
      rw [run_nil] at h
      split at h
      · simp only [Sum.inr.injEq] at h
        have := unw_len 1 ws
        rw [← h]
        omega
      · exact absurd h (by simp)
    | cons t ts =>
    obtain ⟨k, v⟩ := t
    simp only [List.length_cons] at hL ⊢
    by_cases q : m = 0
    · subst q
      cases hj : jn k ws o with
      | none => rw [run_j0 hj] at h; exact absurd h (by simp)
      | some r =>
        obtain ⟨e, ws2, o2, m2⟩ := r
        obtain ⟨c1, c2, -, -, c5, c6⟩ := jn_inv ha hs hj
        rw [run_j1 hj] at h
        obtain ⟨E2, r1, r2⟩ := addE_inr h
        have := ih ts ws2 o2 m2 E2 (by omega) c5 c1 c2 r1
        rw [r2, List.length_append]
        omega
    · obtain rfl : m = 1 := by omega
      by_cases p1 : k = 2 ∨ k = 3
      · rw [run_p1 p1] at h
        obtain ⟨E2, r1, r2⟩ := addE_inr h
        have h1 := ih ts _ o 0 E2 (by omega) (by omega) (unw_all 6 ws ha) (unw_srt 6 ws hs) r1
        have h2 := unw_len 6 ws
        rw [r2, List.length_append, List.length_cons]
        omega
      by_cases p2 : k = 45
      · subst p2
        rw [run_p2] at h
        obtain ⟨E2, r1, r2⟩ := addE_inr h
        have h1 := ih ts ((21, 0) :: ws) o 1 E2 (by omega) (by omega) ⟨okW_op (by decide), ha⟩ ⟨fun _ x => absurd x (by decide), hs⟩ r1
        simp only [List.length_cons] at h1
        rw [r2, List.nil_append]
        omega
      by_cases p3 : k = 33 ∨ k = 64 ∨ k = 40
      · rw [run_p3 p3] at h
        obtain ⟨E2, r1, r2⟩ := addE_inr h
        have h1 := ih ts ((k, 0) :: ws) o 1 E2 (by omega) (by omega) ⟨by
          rcases p3 with z | z | z
          · exact okW_op (by rw [z]; decide)
          · exact okW_op (by rw [z]; decide)
          · exact Or.inr (Or.inl ⟨z, rfl⟩), ha⟩ ⟨fun x y => by
          rcases p3 with z | z | z <;> rw [z] at x y <;> first | exact absurd y (by decide) | exact absurd x (by decide), hs⟩ r1
        simp only [List.length_cons] at h1
        rw [r2, List.nil_append]
        omega
      by_cases p4 : 13 ≤ k ∧ k ≤ 20
      · cases ts with
        | nil => rw [run_p4 p4] at h; exact absurd h (by simp)
        | cons t2 ts2 =>
          obtain ⟨k2, v2⟩ := t2
          rw [run_p5 p4] at h
          simp only [List.length_cons] at hL ⊢
          by_cases y : k2 = 40
          · subst y
            rw [if_pos rfl] at h
            have hpt := pt_le k
            obtain ⟨E2, r1, r2⟩ := addE_inr h
            have h1 := ih ts2 ((k, pt k - 1) :: ws) o 1 E2 (by omega) (by omega) ⟨Or.inr (Or.inr ⟨p4.1, p4.2, by show pt k - 1 + 1 ≤ pt k; omega⟩), ha⟩ ⟨fun x _ => by have : 1 ≤ rk k := x; rw [rk_fn p4.1 p4.2] at this; omega, hs⟩ r1
            simp only [List.length_cons] at h1
            rw [r2, List.nil_append]
            omega
          · rw [if_neg y] at h
            exact absurd h (by simp)
      · rw [run_p6 p1 p2 p3 p4] at h
        exact absurd h (by simp)
theorem lr_len {k : Nat} {v : Int32} {ts E : List (Nat × Int32)} (h : lr ((k, v) :: ts) = Sum.inr E) : E.length ≤ ts.length := by
  rcases lr_cases h with ⟨-, v2, ts2, e1, e2⟩ | ⟨-, -, -, -, e⟩ | ⟨-, -, -, e⟩
  · have := run_len ts2.length ts2 [] 0 1 E (Nat.le_refl _) (by omega) trivial trivial e2
    rw [e1, List.length_cons]
    simp only [List.length_nil] at this
    omega
  · rw [e]
    exact Nat.zero_le _
  · exact run_len ts.length ts [] _ 1 E (Nat.le_refl _) (by omega) trivial trivial e
def envR (σ τ : St) : Prop := (∀ k, k < 12 → σ.2 19 k = τ.2 7 k) ∧ (∀ k, k < 32 → σ.2 20 k = τ.2 9 k) ∧ (∀ k, k < 256 → σ.2 22 k = τ.2 10 k) ∧ (∀ k, k < 6 → σ.2 23 k = τ.2 11 k)
def prR (σ τ : St) (n : Nat) : Prop := n ≤ 28 ∧ σ.1 16 = nI n ∧ τ.1 1 = nI n ∧ (∀ l, l < n → lnR σ τ l) ∧ (σ.1 17 = 0 ∨ ∀ k, k < n → lineOK (σ.2 12) (σ.2 17) (τ.2 8) k n)
def rel (σ τ : St) : Prop := rT (σ.1 1) (σ.2 1) (τ.1 0) (τ.2 0) ∧ rN (σ.1 4) (σ.2 5) (τ.1 3) (τ.2 6) ∧ (∀ j, j < 17 → σ.2 0 j = tKEYS j) ∧ σ.1 0 = τ.1 2 ∧ σ.1 17 = τ.1 4 ∧ (∃ n, prR σ τ n) ∧ envR σ τ ∧ (σ.1 19 = τ.1 5 ∧ σ.1 20 = τ.1 6 ∧ σ.1 21 = τ.1 7) ∧ ∃ hi : Nat, hi ≤ 60 ∧ τ.1 12 = nI hi
theorem rT_nil {t u : Nat → Int32} : rT 0 t 0 u := ⟨0, by omega, nI_0.symm, nI_0.symm, fun j hj => by omega⟩
/-- names with their letters -/
def rNV (n0 : Nat) (V0 : Nat → Nat → Nat) (σ τ : St) : Prop := n0 ≤ 12 ∧ σ.1 4 = nI n0 ∧ τ.1 3 = nI n0 ∧ ∀ k, k < n0 → (∀ j, V0 k j ≤ 26) ∧ σ.2 5 k = nI (encW (V0 k)) ∧ rowIs (τ.2 6) k (V0 k)
theorem rN.v {σ τ : St} (h : rN (σ.1 4) (σ.2 5) (τ.1 3) (τ.2 6)) : ∃ n0 V0, rNV n0 V0 σ τ := by
  obtain ⟨n, h1, h2, h3, h4⟩ := h
  refine ⟨n, fun k => if q : k < n then Classical.choose (h4 k q) else fun _ => 0, h1, h2, h3, fun k hk => ?_⟩
  have e : (if q : k < n then Classical.choose (h4 k q) else fun _ => 0) = Classical.choose (h4 k hk) := dif_pos hk
  show (∀ j, (if q : k < n then Classical.choose (h4 k q) else fun _ => 0) j ≤ 26) ∧ σ.2 5 k = nI (encW (if q : k < n then Classical.choose (h4 k q) else fun _ => 0)) ∧ rowIs (τ.2 6) k (if q : k < n then Classical.choose (h4 k q) else fun _ => 0)
  rw [e]
  exact Classical.choose_spec (h4 k hk)
theorem rNV.n {n0 : Nat} {V0 : Nat → Nat → Nat} {σ τ : St} (h : rNV n0 V0 σ τ) : rN (σ.1 4) (σ.2 5) (τ.1 3) (τ.2 6) := ⟨n0, h.1, h.2.1, h.2.2.1, fun k hk => ⟨V0 k, (h.2.2.2 k hk).1, (h.2.2.2 k hk).2.1, (h.2.2.2 k hk).2.2⟩⟩
/-- what a refused line leaves -/
theorem rel.keep {σ τ σ2 τ2 : St} (h : rel σ τ) (t1 : σ2.1 1 = 0) (t2 : τ2.1 0 = 0) (hN : rN (σ2.1 4) (σ2.2 5) (τ2.1 3) (τ2.2 6)) (hp : σ2.1 0 = τ2.1 2) (c : ∀ k, 15 < k → σ2.1 k = σ.1 k) (ca : ∀ k, k = 0 ∨ 11 < k → σ2.2 k = σ.2 k) (m1 : τ2.1 1 = τ.1 1) (m4 : τ2.1 4 = τ.1 4) (m5 : τ2.1 5 = τ.1 5) (m6 : τ2.1 6 = τ.1 6) (m7 : τ2.1 7 = τ.1 7) (m12 : ∃ hi : Nat, hi ≤ 60 ∧ τ2.1 12 = nI hi) (ma : ∀ k, k = 5 ∨ k = 7 ∨ k = 8 ∨ k = 9 ∨ k = 10 ∨ k = 11 → τ2.2 k = τ.2 k) (mb : ∀ x, x < 1344 → τ2.2 1 x = τ.2 1 x ∧ τ2.2 2 x = τ.2 2 x) (mc : ∀ x, x < 28 → τ2.2 4 x = τ.2 4 x) : rel σ2 τ2 := by
  obtain ⟨-, -, g3, -, g5, ⟨n, p1, p2, p3, p4, p5⟩, ⟨e1, e2, e3, e4⟩, ⟨s1, s2, s3⟩, -⟩ := h
  refine ⟨by rw [t1, t2]; exact rT_nil, hN, by rw [ca 0 (by omega)]; exact g3, hp, ?_, ⟨n, p1, ?_, m1.trans p3, fun l hl => ?_, ?_⟩, ⟨?_, ?_, ?_, ?_⟩, ⟨?_, ?_, ?_⟩, m12⟩
  · rw [c 17 (by omega), m4]; exact g5
  · rw [c 16 (by omega)]; exact p2
  · refine (p4 l hl).cg (mc l (by omega)) (by rw [ma 5 (by omega)]) (fun j hj => mb _ (by omega)) (by rw [ca 12 (by omega)]) (by rw [ca 13 (by omega)]) (by rw [ca 14 (by omega)]) (fun j _ => ⟨by rw [ca 15 (by omega)], by rw [ca 16 (by omega)]⟩)
  · rw [c 17 (by omega), ca 12 (by omega), ca 17 (by omega), ma 8 (by omega)]; exact p5
  · rw [ca 19 (by omega), ma 7 (by omega)]; exact e1
  · rw [ca 20 (by omega), ma 9 (by omega)]; exact e2
  · rw [ca 22 (by omega), ma 10 (by omega)]; exact e3
  · rw [ca 23 (by omega), ma 11 (by omega)]; exact e4
  · rw [c 19 (by omega), m5]; exact s1
  · rw [c 20 (by omega), m6]; exact s2
  · rw [c 21 (by omega), m7]; exact s3
theorem pc_57 {N : Nat} {t0 l1 : Int32} {σ : St} (h : l1 ≤ 0) : J_Con_add_57 N t0 l1 σ = some (l1, sF (sF σ 0 t0) 1 0) := by
  rw [J_Con_add_57, ax_let, if_pos h, J_Tokens_empty, ax_let, ax_bsV]
theorem pc_ans {N e hi n B : Nat} {σ : St} (h10 : σ.1 10 = nI e) (h12 : σ.1 12 = nI (hi - 1)) (h16 : σ.1 16 = nI n) (h6 : σ.1 6 = if B ≤ 12 then 0 else 1) (he : e < 1000) (hhi : hi < 1000) (hn : n < 1000) : J_Con_answerToStatement N σ = some (if e ≤ 16 ∧ hi ≤ 6 ∧ ¬ n = 28 ∧ B ≤ 12 then nI (n + 1) else -2, σ) := by
  rw [J_Con_answerToStatement, J_LineReader_isTooLarge, h10, h12]
  by_cases q1 : e ≤ 16
  · rw [if_neg (show ¬ 16 < nI e from nI_nlt (a := 16) q1 (by decide))]
    by_cases q2 : hi ≤ 6
    · rw [if_pos (show nI (hi - 1) ≤ 5 from nI_le (b := 5) (by omega) (by decide)), ax_bs, if_pos rfl, h16]
      by_cases q3 : n = 28
      · rw [if_pos (show nI n = 28 by rw [q3]; rfl), if_neg (fun w => w.2.2.1 q3)]
      · rw [if_neg (show ¬ nI n = 28 from fun w => q3 ((nI_eq (b := 28) (by omega) (by decide)).mp w)), h6]
        by_cases q4 : B ≤ 12
        · rw [if_pos q4, if_pos rfl, if_pos ⟨q1, q2, q3, q4⟩, nI_1]
        · rw [if_neg q4, if_neg (by decide), if_neg (fun w => q4 w.2.2.2)]
    · rw [if_neg (show ¬ nI (hi - 1) ≤ 5 from nI_ge (a := 5) (by omega) (by omega)), ax_bs, if_neg (by decide), if_neg (fun w => q2 w.2.1)]
  · rw [if_pos (show 16 < nI e from nI_lt (a := 16) (by omega) (by omega)), ax_bs, if_neg (by decide), if_neg (fun w => q1 w.1)]
theorem pm_addF {N e hi n B : Nat} {τ : St} (h11 : τ.1 11 = nI e) (h12 : τ.1 12 = nI hi) (h1 : τ.1 1 = nI n) (h13 : τ.1 13 = nI B) (he : e < 1000) (hhi : hi < 1000) (hn : n < 1000) (hB : B < 1000) : addF N τ = if e ≤ 16 ∧ hi ≤ 6 ∧ ¬ n = 28 ∧ B ≤ 12 then J_Mod_add_222 N N 0 τ else some (-2, τ) := by
  rw [addF, h11, h12, h1, h13]
  by_cases q1 : e ≤ 16
  · rw [if_neg (show ¬ 16 < nI e from nI_nlt (a := 16) q1 (by decide))]
    by_cases q2 : hi ≤ 6
    · rw [if_neg (show ¬ 6 < nI hi from nI_nlt (a := 6) q2 (by decide))]
      by_cases q3 : n = 28
      · rw [if_pos (show nI n = 28 by rw [q3]; rfl), if_neg (fun w => w.2.2.1 q3)]
      · rw [if_neg (show ¬ nI n = 28 from fun w => q3 ((nI_eq (b := 28) (by omega) (by decide)).mp w))]
        by_cases q4 : B ≤ 12
        · rw [if_pos (show nI B ≤ 12 from nI_le (b := 12) q4 (by decide)), if_pos ⟨q1, q2, q3, q4⟩]
        · rw [if_neg (show ¬ nI B ≤ 12 from nI_ge (a := 12) (by omega) (by omega)), if_neg (fun w => q4 w.2.2.2)]
    · rw [if_pos (show 6 < nI hi from nI_lt (a := 6) (by omega) (by omega)), if_neg (fun w => q2 w.2.1)]
  · rw [if_pos (show 16 < nI e from nI_lt (a := 16) (by omega) (by omega)), if_neg (fun w => q1 w.1)]
/-- the copying of a line -/
theorem pm_222 {N n T : Nat} (hn : n < 28) (hT : T ≤ 48) : ∀ (f i : Nat) (τ : St), i ≤ T → T - i < f → τ.1 1 = nI n → τ.2 4 28 = nI T → ∃ τ2 : St, J_Mod_add_222 N f (nI i) τ = some (nI (n + 1), τ2) ∧ τ2.1 1 = nI (n + 1) ∧ τ2.1 3 = τ.1 13 ∧ (∀ k, k ≠ 1 → k ≠ 3 → τ2.1 k = τ.1 k) ∧ (∀ k, k ≠ 1 → k ≠ 2 → k ≠ 4 → k ≠ 5 → τ2.2 k = τ.2 k) ∧ τ2.2 4 = upd (τ.2 4) n (nI T) ∧ τ2.2 5 = upd (τ.2 5) n (τ.1 11) ∧ (∀ x, τ2.2 1 x = if 48 * n + i ≤ x ∧ x < 48 * n + T then τ.2 1 (1344 + (x - 48 * n)) else τ.2 1 x) ∧ (∀ x, τ2.2 2 x = if 48 * n + i ≤ x ∧ x < 48 * n + T then τ.2 2 (1344 + (x - 48 * n)) else τ.2 2 x) := by
  intro f
  induction f with
  | zero => intro i τ _ h; omega
  | succ f ih =>
    intro i τ hi hf h1 h4
    have hb : inB (nI n) 29 = true := pu_inB (by omega) (by decide)
    generalize start : J_Mod_add_222 N (f + 1) (nI i) τ = X
    rw [J_Mod_add_222, if_pos (by decide), show (28 : Int32).toNatClampNeg = 28 from rfl, h4] at start
    by_cases q : i = T
    · subst q
      rw [if_pos (Int32.le_refl _), if_pos (by decide), h1, if_pos hb, nI_clamp (by omega), ax_let, show (sA τ 4 n (nI i)).1 1 = nI n from h1, if_pos hb, nI_clamp (by omega), ax_let, ax_let, ax_let] at start
      rw [show (sF (sA (sA τ 4 n (nI i)) 5 n ((sA τ 4 n (nI i)).1 11)) 3 ((sA (sA τ 4 n (nI i)) 5 n ((sA τ 4 n (nI i)).1 11)).1 13)).1 1 = nI n from h1, nI_1] at start
      refine ⟨_, start.symm, rfl, rfl, fun k a b => ?_, fun k a b c d => ?_, ?_, ?_, fun x => ?_, fun x => ?_⟩
      · show upd (upd τ.1 3 _) 1 _ k = _
        rw [pk_un a, pk_un b]
      · show (sA (sA τ 4 n (nI i)) 5 n (τ.1 11)).2 k = _
        rw [sA_ne _ _ _ d, sA_ne _ _ _ c]
      · show (sA (sA τ 4 n (nI i)) 5 n (τ.1 11)).2 4 = _
        rw [sA_ne _ _ _ (by decide), sA_self]
      · show (sA (sA τ 4 n (nI i)) 5 n (τ.1 11)).2 5 = _
        rw [sA_self, sA_ne _ _ _ (by decide)]
      · rw [if_neg (by omega)]
        show (sA (sA τ 4 n (nI i)) 5 n (τ.1 11)).2 1 x = _
        rw [sA_ne _ _ _ (by decide), sA_ne _ _ _ (by decide)]
      · rw [if_neg (by omega)]
        show (sA (sA τ 4 n (nI i)) 5 n (τ.1 11)).2 2 x = _
        rw [sA_ne _ _ _ (by decide), sA_ne _ _ _ (by decide)]
    · have e1 : 48 * nI n + nI i = nI (48 * n + i) := by rw [pu_48, nI_add]
      have hb1 : inB (nI (1344 + i)) 1400 = true := pu_inB (by omega) (by decide)
      have hb2 : inB (nI (48 * n + i)) 1400 = true := pu_inB (by omega) (by decide)
      rw [if_neg (nI_ge (by omega) (by omega)), pu_1344, if_pos hb1, h1, e1, if_pos hb2, nI_clamp (by omega), nI_clamp (by omega), ax_let, if_pos hb1, show (sA τ 1 (48 * n + i) (τ.2 1 (1344 + i))).1 1 = nI n from h1, e1, if_pos hb2, nI_clamp (by omega), ax_let, ax_let, nI_1] at start
      have e2 : (sA τ 1 (48 * n + i) (τ.2 1 (1344 + i))).2 2 (1344 + i) = τ.2 2 (1344 + i) := by rw [sA_ne _ _ _ (by decide)]
      rw [e2] at start
      obtain ⟨τ2, g1, g2, g3, g4, g5, g6, g7, g8, g9⟩ := ih (i + 1) (sA (sA τ 1 (48 * n + i) (τ.2 1 (1344 + i))) 2 (48 * n + i) (τ.2 2 (1344 + i))) (by omega) (by omega) h1 (by rw [sA_ne _ _ _ (by decide), sA_ne _ _ _ (by decide)]; exact h4)
      refine ⟨τ2, by rw [← start]; exact g1, g2, g3, g4, fun k a b c d => by rw [g5 k a b c d, sA_ne _ _ _ b, sA_ne _ _ _ a], by rw [g6, sA_ne _ _ _ (by decide), sA_ne _ _ _ (by decide)], by rw [g7, sA_ne _ _ _ (by decide), sA_ne _ _ _ (by decide)]; rfl, fun x => ?_, fun x => ?_⟩
      · rw [g8 x, sA_ne _ _ _ (by decide), sA_self]
        by_cases z : x = 48 * n + i
        · rw [if_neg (by omega), z, pk_us, if_pos (by omega), show 48 * n + i - 48 * n = i by omega]
        · by_cases z2 : 48 * n + (i + 1) ≤ x ∧ x < 48 * n + T
          · rw [if_pos z2, if_pos (by omega), pk_un (by omega)]
          · rw [if_neg z2, if_neg (by omega), pk_un z]
      · rw [g9 x, sA_self, sA_ne _ _ _ (by decide)]
        by_cases z : x = 48 * n + i
        · rw [if_neg (by omega), z, pk_us, if_pos (by omega), show 48 * n + i - 48 * n = i by omega]
        · by_cases z2 : 48 * n + (i + 1) ≤ x ∧ x < 48 * n + T
          · rw [if_pos z2, if_pos (by omega), pk_un (by omega)]
          · rw [if_neg z2, if_neg (by omega), pk_un z]
