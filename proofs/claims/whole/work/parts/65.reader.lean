/-! PURE ROWS 16: the console's reader goes as the yard. -/
def tkC (V : Nat → Nat → Nat) (B : Nat) (σ : St) : Nat → Nat → List (Nat × Int32) → Prop
  | i, b, [] => b = B ∧ σ.2 2 i = 0
  | i, b, t :: ts => okk t.1 = true ∧ σ.2 2 i = nI t.1 ∧ (t.1 = 1 ∨ ∃ b2, (t.1 = 2 → σ.2 4 i = t.2) ∧ (t.1 = 3 → nmR V b b2 (σ.2 4 i) t.2) ∧ (t.1 ≠ 3 → b2 = b) ∧ tkC V B σ (i + 1) b2 ts)
theorem tkC.cg {V : Nat → Nat → Nat} {B : Nat} {σ σ2 : St} (h2 : σ2.2 2 = σ.2 2) (h4 : σ2.2 4 = σ.2 4) : ∀ {ts : List (Nat × Int32)} {i b : Nat}, tkC V B σ i b ts → tkC V B σ2 i b ts := by
  intro ts
  induction ts with
  | nil => intro i b h; exact ⟨h.1, by rw [h2]; exact h.2⟩
  | cons t ts ih =>
    intro i b h
    refine ⟨h.1, by rw [h2]; exact h.2.1, ?_⟩
    rcases h.2.2 with q | ⟨b2, q1, q2, q3, q4⟩
    · exact Or.inl q
    · exact Or.inr ⟨b2, by rw [h4]; exact q1, by rw [h4]; exact q2, q3, ih q4⟩
def rFr (σ σ2 : St) : Prop := (∀ k, k < 5 ∨ k = 8 ∨ k = 9 ∨ 15 < k → σ2.1 k = σ.1 k) ∧ ∀ k, k < 5 ∨ 11 < k → σ2.2 k = σ.2 k
theorem rFr.rf (σ : St) : rFr σ σ := ⟨fun _ _ => rfl, fun _ _ => rfl⟩
theorem rFr.tr {a b c : St} (h : rFr a b) (h2 : rFr b c) : rFr a c := ⟨fun k q => (h2.1 k q).trans (h.1 k q), fun k q => (h2.2 k q).trans (h.2 k q)⟩
theorem uFr.r {σ σ2 : St} (h : uFr σ σ2) : rFr σ σ2 := ⟨fun k q => h.1 k (by omega) (by omega) (by omega) (by omega) (by omega), fun k q => h.2 k (by omega) (by omega) (by omega)⟩
theorem emFr.r {σ σ2 : St} (h : emFr σ σ2) : rFr σ σ2 := ⟨fun k q => h.1 k (by omega) (by omega) (by omega) (by omega), fun k q => h.2.1 k (by omega) (by omega) (by omega)⟩
theorem rFr.f (σ : St) (j : Nat) (v : Int32) (h : 5 ≤ j ∧ j ≤ 15 ∧ j ≠ 8 ∧ j ≠ 9) : rFr σ (sF σ j v) := ⟨fun k q => if_neg (by omega), fun _ _ => rfl⟩
theorem rFr.a (σ : St) (j i : Nat) (v : Int32) (h : 5 ≤ j ∧ j ≤ 11) : rFr σ (sA σ j i v) := ⟨fun _ _ => rfl, fun k q => sA_ne _ _ _ (by omega)⟩
theorem tkC.r {V : Nat → Nat → Nat} {B : Nat} {σ σ2 : St} {ts : List (Nat × Int32)} {i b : Nat} (h : tkC V B σ i b ts) (hr : rFr σ σ2) : tkC V B σ2 i b ts := tkC.cg (hr.2 2 (by omega)) (hr.2 4 (by omega)) h
theorem nmS.cg {V : Nat → Nat → Nat} {b : Nat} {σ σ2 : St} (h : nmS V b σ) (h5 : σ2.1 5 = σ.1 5) (h6 : σ2.1 6 = σ.1 6) (ha : σ2.2 5 = σ.2 5) : nmS V b σ2 := ⟨by rw [h5]; exact h.1, by rw [h6]; exact h.2.1, by rw [ha]; exact h.2.2⟩
theorem wst.cg {ws : List (Nat × Nat)} {σ σ2 : St} (h : wst σ ws) (h1 : σ2.1 13 = σ.1 13) (h2 : σ2.2 9 = σ.2 9) (h3 : σ2.2 10 = σ.2 10) (h4 : σ2.2 11 = σ.2 11) : wst σ2 ws := ⟨by rw [h1]; exact h.1, by rw [h2]; exact h.2.1, by rw [h3]; exact h.2.2.1, by rw [h4]; exact h.2.2.2⟩
theorem nst.cg {Er : List (Nat × Int32)} {hs : List Nat} {hi : Nat} {σ σ2 : St} (h : nst σ Er hs hi) (h1 : σ2.1 10 = σ.1 10) (h2 : σ2.1 11 = σ.1 11) (h3 : σ2.1 12 = σ.1 12) (h4 : σ2.2 6 = σ.2 6) (h5 : σ2.2 7 = σ.2 7) (h6 : σ2.2 8 = σ.2 8) : nst σ2 Er hs hi := ⟨by rw [h1]; exact h.1, by rw [h4]; exact h.2.1, by rw [h5]; exact h.2.2.1, by rw [h2]; exact h.2.2.2.1, by rw [h6]; exact h.2.2.2.2.1, by rw [h3]; exact h.2.2.2.2.2.1, h.2.2.2.2.2.2⟩
/-- how the reading of expressions ends -/
def rdR (V : Nat → Nat → Nat) (B : Nat) (σ : St) (p b : Nat) (hs : List Nat) (hi : Nat) (Er pre : List (Nat × Int32)) (J : Option (Int32 × St)) : Nat ⊕ List (Nat × Int32) → Prop
  | Sum.inl j => ∃ (σ2 : St) (b2 : Nat), J = some (0, σ2) ∧ σ2.1 7 = nI (p + 1 + j) ∧ rFr σ σ2 ∧ nmS V b2 σ2 ∧ b ≤ b2
  | Sum.inr E => ∃ (σ2 : St) (hs2 : List Nat) (hi2 : Nat), J = some (1, σ2) ∧ rFr σ σ2 ∧ nmS V B σ2 ∧ b ≤ B ∧ nst σ2 ((pre ++ E).reverse ++ Er) hs2 hi2 ∧ exH (pre ++ E) (hs, hi) = some (hs2, hi2)
theorem rdR.step {V : Nat → Nat → Nat} {B : Nat} {σ σ2 : St} {p b b2 c : Nat} {hs hs2 : List Nat} {hi hi2 : Nat} {Er pre pre2 eM eC : List (Nat × Int32)} {J : Option (Int32 × St)} {R : Nat ⊕ List (Nat × Int32)} (h1 : exH eC (hs, hi) = some (hs2, hi2)) (h2 : pre ++ eM = eC ++ pre2) (h3 : rFr σ σ2) (h4 : b ≤ b2) (h : rdR V B σ2 (p + c) b2 hs2 hi2 (eC.reverse ++ Er) pre2 J R) : rdR V B σ p b hs hi Er pre J (addE eM c R) := by
  cases R with
  | inl j =>
    obtain ⟨σ3, b3, g1, g2, g3, g4, g5⟩ := h
    exact ⟨σ3, b3, g1, by rw [g2]; congr 1; omega, h3.tr g3, g4, by omega⟩
  | inr E =>
    obtain ⟨σ3, hs3, hi3, g1, g2, g3, g4, g5, g6⟩ := h
    have e : pre ++ (eM ++ E) = eC ++ (pre2 ++ E) := by rw [← List.append_assoc, h2, List.append_assoc]
    refine ⟨σ3, hs3, hi3, g1, h3.tr g2, g3, by omega, ?_, ?_⟩
    · rw [e, List.reverse_append, List.append_assoc]
      exact g5
    · rw [e]
      exact exH_app _ _ _ _ _ h1 g6
def rkI (a : Int32) : Int32 := if a = 21 then 6 else if a = 33 then 6 else if a = 37 then 5 else if a = 38 then 2 else if a = 42 then 5 else if a = 43 then 4 else if a = 45 then 4 else if a = 47 then 5 else if a = 60 then 3 else if a = 61 then 3 else if a = 62 then 3 else if a = 64 then 6 else if a = 124 then 1 else 0
theorem rkI_rk : ∀ k, k ≤ 126 → rkI (nI k) = nI (rk k) := by decide +kernel
theorem pu_rank {N k : Nat} {σ : St} (h : k ≤ 126) : J_Con_rankOf N (nI k) σ = some (nI (rk k), σ) := by
  rw [← rkI_rk k h, J_Con_rankOf, rkI]
  repeat' first | rfl | apply pu_ifs
theorem pu_isb {N k : Nat} {σ : St} (h : k ≤ 126) : J_Con_isBuiltIn N (nI k) σ = some (if 13 ≤ k ∧ k ≤ 20 then 1 else 0, σ) := by
  rw [J_Con_isBuiltIn]
  by_cases q1 : k < 13
  · rw [if_pos (show nI k < 13 from nI_lt (b := 13) q1 (by decide)), if_neg (by omega)]
  · rw [if_neg (show ¬ nI k < 13 from nI_nlt (b := 13) (by omega) (by omega))]
    by_cases q2 : 20 < k
    · rw [if_pos (show 20 < nI k from nI_lt (a := 20) q2 (by omega)), if_neg (by omega)]
    · rw [if_neg (show ¬ 20 < nI k from nI_nlt (a := 20) (by omega) (by decide)), if_pos (by omega)]
theorem tP_fn : ∀ k, k ≤ 20 → 13 ≤ k → tPARTS (k - 4) = nI (pt k) ∧ ar k = pt k ∧ okk k = true := by decide
theorem kne {k c : Nat} (hk : k ≤ 126) (hc : c ≤ 126) : nI k = nI c ↔ k = c := nI_eq (by omega) (by omega)
theorem dw_br {k d : Nat} (h : rk k = 0) : dw (k, d) = if k = 40 then 0 else pt k - 1 - d := by
  unfold dw
  rw [if_neg (by show ¬ rk k = 6; omega), if_neg (by show ¬ 1 ≤ rk k; omega)]
theorem hN_fn {k : Nat} {hs : List Nat} {hi r : Nat} (h1 : 13 ≤ k) (h2 : k ≤ 20) (hl : hs.length = pt k + r) : ∃ hs2 hi2, hN k (hs, hi) = some (hs2, hi2) ∧ hs2.length = r + 1 := by
  have ha := (tP_fn k h2 h1).2.1
  have hp := pt_le k
  unfold hN
  rw [ha, if_neg (by omega)]
  by_cases q : pt k = 1
  · rw [if_pos q]
    cases hs with
    | nil => simp only [List.length_nil] at hl; omega
    | cons x s =>
      refine ⟨(x + 1) :: s, max hi (x + 2), rfl, ?_⟩
      simp only [List.length_cons] at hl ⊢
      omega
  · rw [if_neg q]
    cases hs with
    | nil => simp only [List.length_nil] at hl; omega
    | cons y hs =>
    cases hs with
    | nil => simp only [List.length_nil, List.length_cons] at hl; omega
    | cons x s =>
      refine ⟨(max x y + 1) :: s, max hi (max x y + 2), rfl, ?_⟩
      simp only [List.length_cons] at hl ⊢
      omega
/-- the state of a reading -/
def rst (V : Nat → Nat → Nat) (σ : St) (p o m b : Nat) (ws : List (Nat × Nat)) (Er : List (Nat × Int32)) (hs : List Nat) (hi c : Nat) : Prop :=
  σ.1 7 = nI p ∧ σ.1 14 = nI o ∧ σ.1 15 = nI m ∧ wst σ ws ∧ nst σ Er hs hi ∧ nmS V b σ ∧ hs.length = dW ws + (1 - m) + c ∧ allW ws
/-- unwinding in a reading -/
theorem rd_unw {N r p o b c : Nat} {V : Nat → Nat → Nat} {σ : St} {ws : List (Nat × Nat)} {Er : List (Nat × Int32)} {hs : List Nat} {hi : Nat} (hN1 : 100 ≤ N) (hr1 : 1 ≤ r) (hr6 : r ≤ 6) (h : rst V σ p o 0 b ws Er hs hi c) (hb : Er.length + ws.length ≤ 48) :
    ∃ (σ2 : St) (hs2 : List Nat) (hi2 : Nat), J_LineReader_unwind N (nI r) σ = some σ2 ∧ rst V σ2 p o 0 b (unw r ws).2 ((unw r ws).1.reverse ++ Er) hs2 hi2 c ∧ exH (unw r ws).1 (hs, hi) = some (hs2, hi2) ∧ rFr σ σ2 := by
  obtain ⟨s1, s2, s3, s4, s5, s6, s7, s8⟩ := h
  obtain ⟨σ2, hs2, hi2, g1, g2, g3, g4, g5, g6, g7⟩ := pu_unw (N := N) (r := r) (b := c) (by omega) hr1 hr6 ws Er hs hi σ N s4 s5 (by omega) hb s8 s3 (by omega)
  refine ⟨σ2, hs2, hi2, g1, ⟨?_, ?_, g7, g2, g3, ?_, by omega, unw_all r ws s8⟩, g5, g6.r⟩
  · rw [g6.1 7 (by decide) (by decide) (by decide) (by decide) (by decide)]; exact s1
  · rw [g6.1 14 (by decide) (by decide) (by decide) (by decide) (by decide)]; exact s2
  · exact s6.cg (g6.1 5 (by decide) (by decide) (by decide) (by decide) (by decide)) (g6.1 6 (by decide) (by decide) (by decide) (by decide) (by decide)) (g6.2 5 (by decide) (by decide) (by decide))
/-- holding in a reading -/
theorem rd_hold {N k r d p o b c m c2 : Nat} {V : Nat → Nat → Nat} {σ : St} {ws : List (Nat × Nat)} {Er : List (Nat × Int32)} {hs : List Nat} {hi : Nat} (h : rst V σ p o m b ws Er hs hi c) (hl : ws.length < 48) (hr : rk k = r) (hok : okW (k, d)) (hd : dW ws + (1 - m) + c = dw (k, d) + dW ws + c2) :
    ∃ σ2 : St, J_LineReader_hold N (nI k) (nI r) (nI d) σ = some σ2 ∧ rst V σ2 p o 1 b ((k, d) :: ws) Er hs hi c2 ∧ rFr σ σ2 := by
  obtain ⟨s1, s2, s3, s4, s5, s6, s7, s8⟩ := h
  obtain ⟨g1, g2⟩ := pu_hold (N := N) (d := d) s4 hl hr
  have fa : ∀ j, j ≠ 9 → j ≠ 10 → j ≠ 11 → (sF (sF (sA (sA (sA σ 9 ws.length (nI k)) 10 ws.length (nI r)) 11 ws.length (nI d)) 13 (nI (ws.length + 1))) 15 1).2 j = σ.2 j := fun j j1 j2 j3 => by
    show (sA (sA (sA σ 9 ws.length (nI k)) 10 ws.length (nI r)) 11 ws.length (nI d)).2 j = _
    rw [sA_ne _ _ _ j3, sA_ne _ _ _ j2, sA_ne _ _ _ j1]
  refine ⟨_, g1, ⟨s1, s2, rfl, g2, s5.cg rfl rfl rfl (fa 6 (by decide) (by decide) (by decide)) (fa 7 (by decide) (by decide) (by decide)) (fa 8 (by decide) (by decide) (by decide)), s6.cg rfl rfl (fa 5 (by decide) (by decide) (by decide)), ?_, ⟨hok, s8⟩⟩, ?_⟩
  · show hs.length = dw (k, d) + dW ws + (1 - 1) + c2
    omega
  · exact ((((rFr.a σ 9 _ _ (by omega)).tr (rFr.a _ 10 _ _ (by omega))).tr (rFr.a _ 11 _ _ (by omega))).tr (rFr.f _ 13 _ (by omega))).tr (rFr.f _ 15 _ (by omega))
