/-! PURE ROWS 25: one line read, on both sides. -/
def sp (k : Nat) : Nat := if k = 4 ∨ k = 6 ∨ k = 8 then 1 else if k = 9 then 3 else if k = 10 ∨ k = 11 then 5 else if k = 12 then 2 else 0
def lrN : List (Nat × Int32) → Nat ⊕ List (Nat × Int32)
  | [] => Sum.inl 1
  | t :: ts2 => if t.1 = 61 then addE [] 2 (run ts2 [] 0 1) else Sum.inl 1
def lrZ : List (Nat × Int32) → Nat ⊕ List (Nat × Int32)
  | [] => Sum.inr []
  | _ :: _ => Sum.inl 1
def lrT (k : Nat) (ts : List (Nat × Int32)) : Nat ⊕ List (Nat × Int32) := if k = 3 then lrN ts else if 4 ≤ k ∧ k ≤ 12 then (if sp k = 0 then lrZ ts else addE [] 1 (run ts [] (sp k - 1) 1)) else Sum.inl 0
/-- a line's tokens: where it fails, or its nodes -/
def lr : List (Nat × Int32) → Nat ⊕ List (Nat × Int32)
  | [] => Sum.inl 0
  | t :: ts => lrT t.1 ts
theorem lr_eq {k : Nat} {v : Int32} {ts : List (Nat × Int32)} : lr ((k, v) :: ts) = if k = 3 then lrN ts else if 4 ≤ k ∧ k ≤ 12 then (if sp k = 0 then lrZ ts else addE [] 1 (run ts [] (sp k - 1) 1)) else Sum.inl 0 := rfl
theorem sp_le {k : Nat} : sp k ≤ 5 := by
  unfold sp
  repeat' split
  all_goals omega
theorem pu_wants {N k : Nat} {τ : St} (h1 : 4 ≤ k) (h2 : k ≤ 12) : J_Mod_wants N (nI (kM k)) τ = some (nI (sp k), τ) := by
  have hk : k = 4 ∨ k = 5 ∨ k = 6 ∨ k = 7 ∨ k = 8 ∨ k = 9 ∨ k = 10 ∨ k = 11 ∨ k = 12 := by omega
  rw [J_Mod_wants]
  rcases hk with rfl | rfl | rfl | rfl | rfl | rfl | rfl | rfl | rfl <;> rfl
theorem tP_st : ∀ k, k ≤ 12 → 4 ≤ k → tPARTS (k - 4) = nI (sp k) := by decide
theorem pu_g72 {N k T p w : Nat} {τ : St} {ts : List (Nat × Int32)} (hN1 : 100 ≤ N) (hT : T ≤ 48) (hp : p + ts.length = T) (ht : tkM τ (1344 + p) ts) (hw : w ≤ 5) (hk : (k = 3 ∧ w = 1) ∨ (4 ≤ k ∧ k ≤ 12 ∧ sp k = w ∧ p = 1)) : ∃ τ2 : St, J_Mod_good_72 N (nI T) (nI (kM k)) (nI p) τ = some (if w = 0 then (if T = 1 then nI T else 1) else gR T p ts.length (run ts [] (w - 1) 1), τ2) ∧ eFr τ τ2 := by
  have st : J_Mod_good_72 N (nI T) (nI (kM k)) (nI p) τ = J_Mod_good_85 N (nI w) (nI T) (nI p) τ := by
    rcases hk with ⟨rfl, rfl⟩ | ⟨a, b, rfl, -⟩
    · rw [J_Mod_good_72, if_pos (by decide)]
      rfl
    · have hne : ∀ k, k ≤ 12 → 4 ≤ k → ¬ nI (kM k) = 2 := by decide
      rw [J_Mod_good_72, if_neg (hne k b a), pu_wants a b, ax_bs]
  rw [st, J_Mod_good_85]
  by_cases z : w = 0
  · subst z
    refine ⟨τ, ?_, rfl, fun _ _ => rfl⟩
    rw [if_pos (show nI 0 = 0 from rfl), if_pos rfl]
    by_cases z2 : T = 1
    · rw [if_pos (show nI T = 1 by rw [z2]; rfl), if_pos z2]
    · rw [if_neg (show ¬ nI T = 1 from fun x => z2 ((kne (c := 1) (by omega) (by decide)).mp x)), if_neg z2]
  · obtain ⟨τ2, g1, g2⟩ := pu_expr (N := N) (n := T) (p := p) (w := w) hN1 hT hp ht (by omega) hw
    refine ⟨τ2, ?_, g2⟩
    rw [if_neg (nI_ne0 (by omega) (by omega)), g1, ax_bs, if_neg z]
theorem pu_good {N : Nat} {τ : St} {ts : List (Nat × Int32)} (hN1 : 100 ≤ N) (h48 : ts.length ≤ 48) (hT : τ.2 4 28 = nI ts.length) (ht : tkM τ 1344 ts) : ∃ τ2 : St, J_Mod_good N τ = some (gR ts.length 0 ts.length (lr ts), τ2) ∧ eFr τ τ2 := by
  have st : J_Mod_good N τ = (if nI ts.length = 0 then some ((-1), τ) else if τ.2 1 1344 = 2 then (if nI ts.length = 1 then some ((-2), τ) else if τ.2 1 1345 = 61 then J_Mod_good_72 N (nI ts.length) (τ.2 1 1344) 2 τ else some (1, τ)) else if τ.2 1 1344 < 10 then some (0, τ) else if τ.2 1 1344 ≤ 18 then J_Mod_good_72 N (nI ts.length) (τ.2 1 1344) 1 τ else some (0, τ)) := by
    rw [J_Mod_good, if_pos (by decide), show (28 : Int32).toNatClampNeg = 28 from rfl, hT, ax_let, if_pos (show inB 1344 1400 = true by decide), show (1344 : Int32).toNatClampNeg = 1344 from rfl, ax_let, if_pos (show inB 1345 1400 = true by decide), show (1345 : Int32).toNatClampNeg = 1345 from rfl]
  cases ts with
  | nil =>
    refine ⟨τ, ?_, rfl, fun _ _ => rfl⟩
    rw [st, if_pos (show nI ([] : List (Nat × Int32)).length = 0 from rfl)]
    rfl
  | cons t ts =>
    obtain ⟨k, v⟩ := t
    obtain ⟨a1, a2, -, a4⟩ := ht
    have a1 : okk k = true := a1
    have a2 : τ.2 1 1344 = nI (kM k) := a2
    have hk := okk_lt a1
    simp only [List.length_cons] at h48 st ⊢
    rw [if_neg (nI_ne0 (by omega) (by omega)), a2] at st
    by_cases q3 : k = 3
    · subst q3
      rw [if_pos (show nI (kM 3) = 2 by decide)] at st
      cases ts with
      | nil =>
        refine ⟨τ, ?_, rfl, fun _ _ => rfl⟩
        rw [st, if_pos (show nI (([] : List (Nat × Int32)).length + 1) = 1 from rfl)]
        rfl
      | cons t2 ts2 =>
        obtain ⟨k2, v2⟩ := t2
        obtain ⟨b1, b2, -, b4⟩ := a4
        have b1 : okk k2 = true := b1
        have b2 : τ.2 1 1345 = nI (kM k2) := b2
        simp only [List.length_cons] at h48 st ⊢
        rw [if_neg (show ¬ nI (ts2.length + 1 + 1) = 1 from fun x => absurd ((kne (c := 1) (by omega) (by decide)).mp x) (by omega)), b2] at st
        have h61 : ∀ k, k ≤ 126 → okk k = true → (nI (kM k) = 61 ↔ k = 61) := by decide +kernel
        have el : lr ((3, v) :: (k2, v2) :: ts2) = if k2 = 61 then addE [] 2 (run ts2 [] 0 1) else Sum.inl 1 := by
          rw [lr_eq, if_pos rfl]
          rfl
        rw [el]
        by_cases q : k2 = 61
        · rw [if_pos ((h61 k2 (okk_lt b1) b1).mpr q)] at st
          obtain ⟨τ2, g1, g2⟩ := pu_g72 (N := N) (k := 3) (T := ts2.length + 1 + 1) (p := 2) (w := 1) (τ := τ) (ts := ts2) hN1 (by omega) (by omega) b4 (by decide) (Or.inl ⟨rfl, rfl⟩)
          refine ⟨τ2, ?_, g2⟩
          rw [if_neg (show ¬ 1 = 0 by decide)] at g1
          rw [if_pos q, st, show ts2.length + 1 + 1 = ts2.length + 2 from rfl, gR_add (l := ts2.length)]
          exact g1
        · rw [if_neg (fun x => q ((h61 k2 (okk_lt b1) b1).mp x))] at st
          refine ⟨τ, ?_, rfl, fun _ _ => rfl⟩
          rw [if_neg q, st]
          show _ = some (if 1 = ts2.length + 1 + 1 then -1 - nI (ts2.length + 1 + 1) else nI (0 + 1), τ)
          rw [if_neg (by omega)]
          rfl
    · have f1 : ∀ k, k ≤ 126 → okk k = true → (nI (kM k) = 2 ↔ k = 3) ∧ ((¬ nI (kM k) < 10 ∧ nI (kM k) ≤ 18) ↔ (4 ≤ k ∧ k ≤ 12)) := by decide +kernel
      obtain ⟨f1, f2⟩ := f1 k hk a1
      rw [if_neg (fun x => q3 (f1.mp x))] at st
      by_cases q4 : 4 ≤ k ∧ k ≤ 12
      · obtain ⟨y1, y2⟩ := f2.mpr q4
        rw [if_neg y1, if_pos y2] at st
        obtain ⟨τ2, g1, g2⟩ := pu_g72 (N := N) (k := k) (T := ts.length + 1) (p := 1) (w := sp k) (τ := τ) (ts := ts) hN1 (by omega) (by omega) a4 sp_le (Or.inr ⟨q4.1, q4.2, rfl, rfl⟩)
        refine ⟨τ2, ?_, g2⟩
        have g1 : J_Mod_good_72 N (nI (ts.length + 1)) (nI (kM k)) 1 τ = _ := g1
        rw [st, g1]
        congr 2
        rw [lr_eq, if_neg q3, if_pos q4]
        by_cases z : sp k = 0
        · rw [if_pos z, if_pos z]
          cases ts with
          | nil => rfl
          | cons t2 ts2 =>
            simp only [List.length_cons] at h48 ⊢
            rw [if_neg (by omega)]
            show (1 : Int32) = if 1 = ts2.length + 1 + 1 then -1 - nI (ts2.length + 1 + 1) else nI (0 + 1)
            rw [if_neg (by omega)]
            rfl
        · rw [if_neg z, if_neg z, gR_add]
      · have y : ∀ X Y : Option (Int32 × St), X = Y → (if nI (kM k) < 10 then Y else if nI (kM k) ≤ 18 then J_Mod_good_72 N (nI (ts.length + 1)) (nI (kM k)) 1 τ else X) = X := by
          intro X Y e
          by_cases y1 : nI (kM k) < 10
          · rw [if_pos y1, e]
          · rw [if_neg y1, if_neg (fun y2 => q4 (f2.mp ⟨y1, y2⟩))]
        refine ⟨τ, ?_, rfl, fun _ _ => rfl⟩
        rw [st, y _ _ rfl, lr_eq, if_neg q3, if_neg q4]
        show _ = some (if 0 = ts.length + 1 then -1 - nI (ts.length + 1) else nI (0 + 0), τ)
        rw [if_neg (by omega)]
        rfl
theorem pu_rex {N B p b w : Nat} {V : Nat → Nat → Nat} {σ : St} {ts : List (Nat × Int32)} (hN1 : 100 ≤ N) (hV : ∀ k j, V k j ≤ 26) (ht : tkC V B σ (p + 1) b ts) (hl : p + 1 + ts.length ≤ 48) (h7 : σ.1 7 = nI p) (h10 : σ.1 10 = 0) (h11 : σ.1 11 = 0) (h12 : σ.1 12 = 0) (h13 : σ.1 13 = 0) (hn : nmS V b σ) (hw : 1 ≤ w) (hw5 : w ≤ 5) (hb : b ≤ 20 + p) : rdR V B σ p b [] 0 [] [] (J_LineReader_readExpressions N (nI w) σ) (run ts [] (w - 1) 1) := by
  have fr : rFr σ (sF (sF σ 14 (nI (w - 1))) 15 1) := (rFr.f σ 14 _ (by omega)).tr (rFr.f _ 15 _ (by omega))
  have h := rd_loop (N := N) (B := B) (T := p + 1 + ts.length) hN1 hV hl ts.length ts [] (w - 1) 1 p b [] [] 0 0 (sF (sF σ 14 (nI (w - 1))) 15 1) N (Nat.le_refl _) (ht.r fr) rfl ⟨h7, rfl, rfl, ⟨h13, trivial, trivial, trivial⟩, ⟨h10, trivial, trivial, h11, trivial, h12, by simp, by omega, Nat.le_refl _⟩, hn, rfl, trivial⟩ (by omega) (by omega) hb (Nat.zero_le _) (by omega)
  rw [if_neg (show ¬ 1 = 0 by decide), if_neg (show ¬ 1 = 0 by decide)] at h
  have st : J_LineReader_readExpressions N (nI w) σ = J_LineReader_readExpressions_12 N N (sF (sF σ 14 (nI (w - 1))) 15 1) := by
    rw [J_LineReader_readExpressions, show nI w - 1 = nI (w - 1) from pk_sub (b := 1) hw, ax_let, ax_let]
  rw [st]
  generalize run ts [] (w - 1) 1 = R at h ⊢
  cases R with
  | inl j =>
    obtain ⟨σ2, b2, g1, g2, g3, g4, g5⟩ := h
    exact ⟨σ2, b2, g1, g2, fr.tr g3, g4, g5⟩
  | inr E =>
    obtain ⟨σ2, hs2, hi2, g1, g2, g3, g4, g5, g6⟩ := h
    exact ⟨σ2, hs2, hi2, g1, fr.tr g2, g3, g4, g5, g6⟩
def lFr (σ σ2 : St) : Prop := (∀ k, k < 5 ∨ 15 < k → σ2.1 k = σ.1 k) ∧ ∀ k, k < 5 ∨ 11 < k → σ2.2 k = σ.2 k
theorem lFr.tr {a b c : St} (h : lFr a b) (h2 : lFr b c) : lFr a c := ⟨fun k q => (h2.1 k q).trans (h.1 k q), fun k q => (h2.2 k q).trans (h.2 k q)⟩
theorem rFr.l {a b : St} (h : rFr a b) : lFr a b := ⟨fun k q => h.1 k (by omega), h.2⟩
theorem lFr.f (σ : St) (j : Nat) (v : Int32) (h : 5 ≤ j ∧ j ≤ 15) : lFr σ (sF σ j v) := ⟨fun k q => if_neg (by omega), fun _ _ => rfl⟩
def rdL (V : Nat → Nat → Nat) (B n0 : Nat) (σ : St) (kk : Nat) (vv : Int32) (J : Option (Int32 × St)) : Nat ⊕ List (Nat × Int32) → Prop
  | Sum.inl j => ∃ (σ2 : St) (b2 : Nat), J = some (0, σ2) ∧ σ2.1 7 = nI j ∧ lFr σ σ2 ∧ nmS V b2 σ2 ∧ n0 ≤ b2
  | Sum.inr E => ∃ (σ2 : St) (hs2 : List Nat) (hi2 : Nat), J = some (1, σ2) ∧ lFr σ σ2 ∧ nmS V B σ2 ∧ n0 ≤ B ∧ nst σ2 E.reverse hs2 hi2 ∧ exH E ([], 0) = some (hs2, hi2) ∧ σ2.1 8 = nI kk ∧ (kk = 3 → σ2.1 9 = opC (3, vv))
theorem rdR.l {V : Nat → Nat → Nat} {B n0 p b kk : Nat} {vv : Int32} {σ σ1 : St} {J : Option (Int32 × St)} {R : Nat ⊕ List (Nat × Int32)} {f : Int32 → St → Option (Int32 × St)} (h : rdR V B σ1 p b [] 0 [] [] J R) (hf : lFr σ σ1) (hb : n0 ≤ b) (h8 : σ1.1 8 = nI kk) (h9 : kk = 3 → σ1.1 9 = opC (3, vv)) (f0 : ∀ s, f 0 s = some (0, s)) (f1 : ∀ s, f 1 s = some (1, s)) : rdL V B n0 σ kk vv (ax_bind J f) (addE [] (p + 1) R) := by
  cases R with
  | inl j =>
    obtain ⟨σ2, b2, g1, g2, g3, g4, g5⟩ := h
    exact ⟨σ2, b2, by rw [g1, ax_bs, f0], by rw [g2]; congr 1; omega, hf.tr g3.l, g4, by omega⟩
  | inr E =>
    obtain ⟨σ2, hs2, hi2, g1, g2, g3, g4, g5, g6⟩ := h
    rw [List.nil_append, List.append_nil] at g5
    rw [List.nil_append] at g6
    exact ⟨σ2, hs2, hi2, by rw [g1, ax_bs, f1], hf.tr g2.l, g3, by omega, g5, g6, (g2.1 8 (by omega)).trans h8, fun q => (g2.1 9 (by omega)).trans (h9 q)⟩
def clr (σ : St) : St := sF (sF (sF (sF (sF (sF (sF (sF σ 5 (σ.1 4)) 6 0) 7 0) 9 0) 10 0) 11 0) 12 0) 13 0
theorem pu_clear {N : Nat} {σ : St} : J_LineReader_clear N σ = some (clr σ) := by
  rw [J_LineReader_clear, J_Names_forgetSeen, ax_let, ax_let, ax_bsV, ax_let, ax_let, ax_let, ax_let, ax_let, ax_let]
  rfl
theorem clr_fr (σ : St) : lFr σ (clr σ) := (lFr.f σ 5 _ (by omega)).tr ((lFr.f _ 6 _ (by omega)).tr ((lFr.f _ 7 _ (by omega)).tr ((lFr.f _ 9 _ (by omega)).tr ((lFr.f _ 10 _ (by omega)).tr ((lFr.f _ 11 _ (by omega)).tr ((lFr.f _ 12 _ (by omega)).tr (lFr.f _ 13 _ (by omega))))))))
def hdT : List (Nat × Int32) → Nat × Int32
  | [] => (0, 0)
  | t :: _ => t
theorem tkC.l {V : Nat → Nat → Nat} {B : Nat} {σ σ2 : St} {ts : List (Nat × Int32)} {i b : Nat} (h : tkC V B σ i b ts) (hr : lFr σ σ2) : tkC V B σ2 i b ts := tkC.cg (hr.2 2 (by omega)) (hr.2 4 (by omega)) h
theorem pu_read {N B n0 : Nat} {V : Nat → Nat → Nat} {σ : St} {ts : List (Nat × Int32)} (hN1 : 100 ≤ N) (hV : ∀ k j, V k j ≤ 26) (h48 : ts.length ≤ 48) (hn0 : n0 ≤ 12) (h4 : σ.1 4 = nI n0) (hk : ∀ k, k < n0 → σ.2 5 k = nI (encW (V k))) (ht : tkC V B σ 0 n0 ts) : rdL V B n0 σ (hdT ts).1 (hdT ts).2 (J_LineReader_readLine N σ) (lr ts) := by
  generalize start : J_LineReader_readLine N σ = X
  rw [J_LineReader_readLine, pu_clear, ax_bsV, if_pos (by decide), show (0 : Int32).toNatClampNeg = 0 from rfl, show (clr σ).2 2 0 = σ.2 2 0 from rfl, ax_let, show (sF (clr σ) 8 (σ.2 2 0)).1 8 = σ.2 2 0 from rfl] at start
  have fr1 : lFr σ (sF (clr σ) 8 (σ.2 2 0)) := (clr_fr σ).tr (lFr.f _ 8 _ (by omega))
  generalize hs1 : sF (clr σ) 8 (σ.2 2 0) = σ1 at start fr1
  have c5 : σ1.1 5 = nI n0 := by rw [← hs1]; exact h4
  have c6 : σ1.1 6 = 0 := by rw [← hs1]; rfl
  have c7 : σ1.1 7 = nI 0 := by rw [← hs1]; rfl
  have c8 : σ1.1 8 = σ.2 2 0 := by rw [← hs1]; rfl
  have c10 : σ1.1 10 = 0 := by rw [← hs1]; rfl
  have c11 : σ1.1 11 = 0 := by rw [← hs1]; rfl
  have c12 : σ1.1 12 = 0 := by rw [← hs1]; rfl
  have c13 : σ1.1 13 = 0 := by rw [← hs1]; rfl
  have a5 : σ1.2 5 = σ.2 5 := by rw [← hs1]; rfl
  have hnm : nmS V n0 σ1 := by
    refine ⟨by rw [c5, Nat.min_eq_left hn0], by rw [c6, if_pos hn0], fun k q => ?_⟩
    rw [a5]
    exact hk k (by omega)
  have ht1 := ht.l fr1
  cases ts with
  | nil =>
    have e0 : σ.2 2 0 = 0 := ht.2
    rw [e0, if_neg (by decide), if_pos (by decide)] at start
    exact ⟨σ1, n0, start.symm, c7, fr1, hnm, Nat.le_refl _⟩
  | cons t ts =>
    obtain ⟨k, v⟩ := t
    simp only [List.length_cons] at h48
    obtain ⟨a1, a2, a3⟩ := ht1
    have a1 : okk k = true := a1
    have a2 : σ.2 2 0 = nI k := ht.2.1
    have hk126 := okk_lt a1
    show rdL V B n0 σ k v X (lr ((k, v) :: ts))
    rw [a2] at start c8
    by_cases q3 : k = 3
    · subst q3
      rw [if_pos (show nI 3 = 3 from rfl)] at start
      obtain ⟨b2, -, r2, -, r4⟩ := a3.resolve_left (show ¬ 3 = 1 by decide)
      have r2 : nmR V n0 b2 (σ1.2 4 0) v := r2 rfl
      have hb2 : n0 ≤ b2 ∧ b2 ≤ n0 + 1 := by
        obtain ⟨id, -, -, z, -⟩ := r2
        omega
      obtain ⟨σ3, j1, j2, j3, j4⟩ := pu_find (N := N) (by omega) hV (by omega) hnm r2
      have fr3 : lFr σ1 σ3 := ⟨fun k q => j3 k (by omega) (by omega), fun k q => j4 k (by omega)⟩
      have e7 : σ3.1 7 = nI 0 := (j3 7 (by decide) (by decide)).trans c7
      rw [J_LineReader_readTarget, c7, if_pos (by decide), show (nI 0).toNatClampNeg = 0 from rfl, j1, ax_bs, ax_let, show (sF σ3 9 (opC (3, v))).1 7 = nI 0 from e7, nI_1, ax_let, show (sF (sF σ3 9 (opC (3, v))) 7 (nI (0 + 1))).1 7 = nI 1 from rfl, if_pos (by decide), show (nI 1).toNatClampNeg = 1 from rfl] at start
      have fr4 : lFr σ1 (sF (sF σ3 9 (opC (3, v))) 7 (nI (0 + 1))) := fr3.tr ((lFr.f _ 9 _ (by omega)).tr (lFr.f _ 7 _ (by omega)))
      have e4 : (sF (sF σ3 9 (opC (3, v))) 7 (nI (0 + 1))).2 2 1 = σ1.2 2 1 := by
        rw [fr4.2 2 (by omega)]
      rw [e4] at start
      have m8 : (sF (sF σ3 9 (opC (3, v))) 7 (nI (0 + 1))).1 8 = nI 3 := (j3 8 (by decide) (by decide)).trans c8
      have m10 : (sF (sF σ3 9 (opC (3, v))) 7 (nI (0 + 1))).1 10 = 0 := (j3 10 (by decide) (by decide)).trans c10
      have m11 : (sF (sF σ3 9 (opC (3, v))) 7 (nI (0 + 1))).1 11 = 0 := (j3 11 (by decide) (by decide)).trans c11
      have m12 : (sF (sF σ3 9 (opC (3, v))) 7 (nI (0 + 1))).1 12 = 0 := (j3 12 (by decide) (by decide)).trans c12
      have m13 : (sF (sF σ3 9 (opC (3, v))) 7 (nI (0 + 1))).1 13 = 0 := (j3 13 (by decide) (by decide)).trans c13
      have m7 : (sF (sF σ3 9 (opC (3, v))) 7 (nI (0 + 1))).1 7 = nI 1 := rfl
      have m9 : (sF (sF σ3 9 (opC (3, v))) 7 (nI (0 + 1))).1 9 = opC (3, v) := rfl
      have mN : nmS V b2 (sF (sF σ3 9 (opC (3, v))) 7 (nI (0 + 1))) := j2
      generalize sF (sF σ3 9 (opC (3, v))) 7 (nI (0 + 1)) = σ4 at *
      cases ts with
      | nil =>
        rw [r4.2, if_neg (by decide), ax_bs, if_pos rfl] at start
        rw [lr_eq, if_pos rfl]
        exact ⟨σ4, b2, start.symm, m7, fr1.tr fr4, mN, hb2.1⟩
      | cons t2 ts2 =>
        obtain ⟨k2, v2⟩ := t2
        obtain ⟨s1, s2, s3⟩ := r4
        have s1 : okk k2 = true := s1
        have s2 : σ1.2 2 1 = nI k2 := s2
        simp only [List.length_cons] at h48
        rw [s2] at start
        have el : lr ((3, v) :: (k2, v2) :: ts2) = if k2 = 61 then addE [] 2 (run ts2 [] 0 1) else Sum.inl 1 := by
          rw [lr_eq, if_pos rfl]
          rfl
        rw [el]
        by_cases q : k2 = 61
        · subst q
          obtain ⟨b3, -, -, y, s4⟩ := s3.resolve_left (show ¬ 61 = 1 by decide)
          have y := y (show ¬ 61 = 3 by decide)
          subst y
          rw [if_pos (show nI 61 = 61 from rfl), ax_bs, if_neg (by decide)] at start
          rw [if_pos rfl, ← start]
          exact rdR.l (p := 1) (pu_rex (N := N) (w := 1) hN1 hV (s4.l fr4) (by omega) m7 m10 m11 m12 m13 mN (by omega) (by omega) (by omega)) (fr1.tr fr4) hb2.1 m8 (fun _ => m9) (fun s => if_pos rfl) (fun s => if_neg (by decide))
        · rw [if_neg (show ¬ nI k2 = 61 from fun x => q ((kne (c := 61) (okk_lt s1) (by decide)).mp x)), ax_bs, if_pos rfl] at start
          rw [if_neg q]
          exact ⟨σ4, b2, start.symm, m7, fr1.tr fr4, mN, hb2.1⟩
    · rw [if_neg (show ¬ nI k = 3 from fun x => q3 ((kne (c := 3) hk126 (by decide)).mp x))] at start
      by_cases q4 : k < 4
      · rw [if_pos (show nI k < 4 from nI_lt (b := 4) q4 (by decide))] at start
        rw [lr_eq, if_neg q3, if_neg (by omega)]
        exact ⟨σ1, n0, start.symm, c7, fr1, hnm, Nat.le_refl _⟩
      · rw [if_neg (show ¬ nI k < 4 from nI_nlt (b := 4) (by omega) (by omega))] at start
        by_cases q12 : k ≤ 12
        · obtain ⟨b2, -, -, y, r4⟩ := a3.resolve_left (show ¬ k = 1 by omega)
          have y := y (show ¬ k = 3 from q3)
          subst y
          rw [if_pos (show nI k ≤ 12 from nI_le (b := 12) q12 (by decide)), show (4 : Int32) = nI 4 from rfl, pk_sub (by omega), if_pos (pu_inB (by omega) (by decide)), nI_clamp (by omega), tP_st k q12 (by omega), ax_let] at start
          rw [lr_eq, if_neg q3, if_pos (by omega)]
          by_cases z : sp k = 0
          · rw [z, if_pos (show nI 0 = 0 from rfl), J_LineReader_readNothing, c7, nI_1, ax_let, show (sF σ1 7 (nI (0 + 1))).1 7 = nI 1 from rfl, if_pos (by decide), show (nI 1).toNatClampNeg = 1 from rfl, show (sF σ1 7 (nI (0 + 1))).2 2 1 = σ1.2 2 1 from rfl] at start
            rw [if_pos z]
            have fr4 : lFr σ1 (sF σ1 7 (nI (0 + 1))) := lFr.f _ 7 _ (by omega)
            cases ts with
            | nil =>
              rw [r4.2, if_pos rfl, ax_bs] at start
              have hB : b2 = B := r4.1
              refine ⟨sF σ1 7 (nI (0 + 1)), [], 0, start.symm, fr1.tr fr4, ?_, by omega, ⟨c10, trivial, trivial, c11, trivial, c12, by simp, by omega, Nat.le_refl _⟩, rfl, c8, fun x => absurd x q3⟩
              rw [← hB]
              exact hnm
            | cons t2 ts2 =>
              obtain ⟨s1, s2, -⟩ := r4
              have s2 : σ1.2 2 1 = nI t2.1 := s2
              have h0 : ¬ t2.1 = 0 := fun x => by
                rw [x] at s1
                exact absurd s1 (by decide)
              have hl := okk_lt s1
              rw [s2, if_neg (nI_ne0 (by omega) (by omega)), ax_bs] at start
              exact ⟨_, b2, start.symm, rfl, fr1.tr fr4, hnm, Nat.le_refl _⟩
          · rw [if_neg (nI_ne0 (by omega) (by have := @sp_le k; omega))] at start
            rw [if_neg z, ← start]
            have h5 := @sp_le k
            exact rdR.l (p := 0) (pu_rex (N := N) (w := sp k) hN1 hV r4 (by omega) c7 c10 c11 c12 c13 hnm (by omega) h5 (by omega)) fr1 (Nat.le_refl _) c8 (fun x => absurd x q3) (fun s => rfl) (fun s => rfl)
        · rw [if_neg (show ¬ nI k ≤ 12 from nI_ge (a := 12) (by omega) (by omega))] at start
          rw [lr_eq, if_neg q3, if_neg (by omega)]
          exact ⟨σ1, n0, start.symm, c7, fr1, hnm, Nat.le_refl _⟩
