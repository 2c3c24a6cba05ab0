/-! PURE ROWS 14: the console's reader: nodes put out, operators that wait. -/
def hN (k : Nat) (p : List Nat × Nat) : Option (List Nat × Nat) :=
  if ar k = 0 then some (0 :: p.1, max p.2 1)
  else if ar k = 1 then (match p.1 with | x :: s => some ((x + 1) :: s, max p.2 (x + 2)) | [] => none)
  else (match p.1 with | y :: x :: s => some ((max x y + 1) :: s, max p.2 (max x y + 2)) | _ => none)
def exH : List (Nat × Int32) → List Nat × Nat → Option (List Nat × Nat)
  | [], p => some p
  | n :: E, p => match hN n.1 p with | none => none | some q => exH E q
theorem exH_app : ∀ (A B : List (Nat × Int32)) (p q r : List Nat × Nat), exH A p = some q → exH B q = some r → exH (A ++ B) p = some r := by
  intro A
  induction A with
  | nil =>
    intro B p q r h1 h2
    have : p = q := by injection h1
    subst this
    exact h2
  | cons n A ih =>
    intro B p q r h1 h2
    show (match hN n.1 p with | none => none | some q => exH (A ++ B) q) = some r
    have h1 : (match hN n.1 p with | none => none | some q => exH A q) = some q := h1
    cases h : hN n.1 p with
    | none => rw [h] at h1; exact absurd h1 (by simp)
    | some z =>
      rw [h] at h1
      exact ih B z q r h1 h2
theorem exH_one {n : Nat × Int32} {p q : List Nat × Nat} (h : hN n.1 p = some q) : exH [n] p = some q := by
  show (match hN n.1 p with | none => none | some q => exH [] q) = some q
  rw [h]
  rfl
/-- a node's second part as the console keeps it: a name that finds no room is 0 -/
def opC (n : Nat × Int32) : Int32 := if n.1 = 3 then (if n.2 < 12 then n.2 else 0) else if n.1 = 2 then n.2 else 0
def wst (σ : St) (ws : List (Nat × Nat)) : Prop := σ.1 13 = nI ws.length ∧ sIs (fun w => nI w.1) (σ.2 9) ws ∧ sIs (fun w => nI (rk w.1)) (σ.2 10) ws ∧ sIs (fun w => nI w.2) (σ.2 11) ws
def nst (σ : St) (Er : List (Nat × Int32)) (hs : List Nat) (hi : Nat) : Prop := σ.1 10 = nI Er.length ∧ sIs (fun n => nI n.1) (σ.2 6) Er ∧ sIs opC (σ.2 7) Er ∧ σ.1 11 = nI hs.length ∧ sIs nI (σ.2 8) hs ∧ σ.1 12 = nI (hi - 1) ∧ (∀ h, h ∈ hs → h ≤ Er.length) ∧ hi ≤ Er.length + 1 ∧ hs.length ≤ Er.length
theorem pu_max {N a b : Nat} {σ : St} (ha : a < 2 ^ 31) (hb : b < 2 ^ 31) : J_CMath_max N (nI a) (nI b) σ = some (nI (max a b), σ) := by
  rw [J_CMath_max]
  rcases Nat.lt_or_ge a b with q | q
  · first
      | rw [if_neg (nI_ge q hb), Nat.max_eq_right (Nat.le_of_lt q)]
      | rw [if_pos (nI_lt q hb), Nat.max_eq_right (Nat.le_of_lt q)]
  · first
      | rw [if_pos (nI_le q ha), Nat.max_eq_left q]
      | rw [if_neg (nI_nlt q ha), Nat.max_eq_left q]
/-- the end of a putting out -/
def emS (σ : St) (h l hi : Nat) : St := sF (sF (sF (sA σ 8 l (nI h)) 11 (nI (l + 1))) 12 (nI (max (hi - 1) h))) 15 0
theorem em_fin {N f a l h hi : Nat} {σ : St} (hl : σ.1 11 = nI l) (hl48 : l < 48) (h12 : σ.1 12 = nI (hi - 1)) (hh : h < 1000) (hhi : hi < 1000) : J_LineReader_emit_36 N (f + 1) (nI a) (nI h) (nI a) σ = some (emS σ h l hi) := by
  rw [J_LineReader_emit_36, if_pos (Int32.le_refl _), hl, if_pos (pu_inB hl48 (by decide)), nI_clamp (by omega), ax_let, ax_let, show (sA σ 8 l (nI h)).1 11 = nI l from hl, nI_1, show (sF (sA σ 8 l (nI h)) 11 (nI (l + 1))).1 12 = nI (hi - 1) from h12, pu_max (by omega) (by omega), ax_bs, ax_let, ax_let]
  rfl
theorem em_st {N f a i l x h : Nat} {σ : St} (hi : i < a) (ha : a < 10) (hl : σ.1 11 = nI (l + 1)) (hl48 : l < 48) (hx : σ.2 8 l = nI x) (hh : h < 1000) (hx2 : x < 1000) : J_LineReader_emit_36 N (f + 1) (nI a) (nI h) (nI i) σ = J_LineReader_emit_36 N f (nI a) (nI (max h (x + 1))) (nI (i + 1)) (sF σ 11 (nI l)) := by
  rw [J_LineReader_emit_36, if_neg (nI_ge hi (by omega)), hl, nI_pred, ax_let, show (sF σ 11 (nI l)).1 11 = nI l from rfl, if_pos (pu_inB hl48 (by decide)), nI_clamp (by omega), show (sF σ 11 (nI l)).2 8 l = nI x from hx, nI_1, pu_max (by omega) (by omega), ax_bs, ax_let, nI_1]
def emFr (σ σ2 : St) : Prop := (∀ k, k ≠ 10 → k ≠ 11 → k ≠ 12 → k ≠ 15 → σ2.1 k = σ.1 k) ∧ (∀ k, k ≠ 6 → k ≠ 7 → k ≠ 8 → σ2.2 k = σ.2 k) ∧ σ2.1 15 = 0
theorem pu_emit {N k : Nat} {x : Int32} {σ : St} {Er : List (Nat × Int32)} {hs hs2 : List Nat} {hi hi2 : Nat} (hN1 : 10 ≤ N) (hs1 : nst σ Er hs hi) (hE : Er.length < 48) (hh : hN k (hs, hi) = some (hs2, hi2)) : ∃ σ2 : St, J_LineReader_emit N (nI k) (opC (k, x)) (nI (ar k)) σ = some σ2 ∧ nst σ2 ((k, x) :: Er) hs2 hi2 ∧ emFr σ σ2 := by
  obtain ⟨n1, n2, n3, n4, n5, n6, n7, n8, n9⟩ := hs1
  obtain ⟨N, rfl⟩ : ∃ j, N = j + 3 := ⟨N - 3, by omega⟩
  have hb : inB (nI Er.length) 48 = true := pu_inB hE (by decide)
  have start : J_LineReader_emit (N + 3) (nI k) (opC (k, x)) (nI (ar k)) σ = J_LineReader_emit_36 (N + 3) (N + 3) (nI (ar k)) 0 0 (sF (sA (sA σ 6 Er.length (nI k)) 7 Er.length (opC (k, x))) 10 (nI (Er.length + 1))) := by
    rw [J_LineReader_emit, n1, if_pos hb, nI_clamp (by omega), ax_let, show (sA σ 6 Er.length (nI k)).1 10 = nI Er.length from n1, if_pos hb, nI_clamp (by omega), ax_let, ax_let, show (sA (sA σ 6 Er.length (nI k)) 7 Er.length (opC (k, x))).1 10 = nI Er.length from n1, nI_1]
  generalize hσ3 : sF (sA (sA σ 6 Er.length (nI k)) 7 Er.length (opC (k, x))) 10 (nI (Er.length + 1)) = σ3 at start
  have c11 : σ3.1 11 = nI hs.length := by rw [← hσ3]; exact n4
  have c12 : σ3.1 12 = nI (hi - 1) := by rw [← hσ3]; exact n6
  have a8 : σ3.2 8 = σ.2 8 := by rw [← hσ3]; show (sA (sA σ 6 Er.length (nI k)) 7 Er.length (opC (k, x))).2 8 = _; rw [sA_ne _ _ _ (by decide), sA_ne _ _ _ (by decide)]
  have a6 : σ3.2 6 = upd (σ.2 6) Er.length (nI k) := by rw [← hσ3]; show (sA (sA σ 6 Er.length (nI k)) 7 Er.length (opC (k, x))).2 6 = _; rw [sA_ne _ _ _ (by decide), sA_self]
  have a7 : σ3.2 7 = upd (σ.2 7) Er.length (opC (k, x)) := by rw [← hσ3]; show (sA (sA σ 6 Er.length (nI k)) 7 Er.length (opC (k, x))).2 7 = _; rw [sA_self, sA_ne _ _ _ (by decide)]
  have aO : ∀ j, j ≠ 6 → j ≠ 7 → σ3.2 j = σ.2 j := fun j q1 q2 => by rw [← hσ3]; show (sA (sA σ 6 Er.length (nI k)) 7 Er.length (opC (k, x))).2 j = _; rw [sA_ne _ _ _ q2, sA_ne _ _ _ q1]
  have c10 : σ3.1 10 = nI (Er.length + 1) := by rw [← hσ3]; rfl
  have cO : ∀ j, j ≠ 10 → σ3.1 j = σ.1 j := fun j q => by rw [← hσ3]; exact if_neg q
  -- the end, from a state that differs in 11 alone
  have done : ∀ (σ4 : St) (h : Nat) (s : List Nat), σ4.2 = σ3.2 → (∀ j, j ≠ 11 → σ4.1 j = σ3.1 j) → σ4.1 11 = nI s.length → sIs nI (σ.2 8) s → hs2 = h :: s → hi2 = max hi (h + 1) → (∀ y, y ∈ s → y ≤ Er.length) → h ≤ Er.length + 1 → s.length ≤ Er.length → nst (emS σ4 h s.length hi) ((k, x) :: Er) hs2 hi2 ∧ emFr σ (emS σ4 h s.length hi) := by
    intro σ4 h s q1 q2 q3 q4 q5 q6 q7 q8 q9
    have z : ∀ j, j ≠ 8 → (emS σ4 h s.length hi).2 j = σ3.2 j := fun j hj => by
      show (sA σ4 8 s.length (nI h)).2 j = _
      rw [sA_ne _ _ _ hj, q1]
    refine ⟨⟨?_, ?_, ?_, ?_, ?_, ?_, ?_, ?_, ?_⟩, ?_, ?_, rfl⟩
    · show σ4.1 10 = _
      rw [q2 10 (by decide), c10]
      rfl
    · rw [z 6 (by decide), a6]
      exact sIs.push n2 (k, x)
    · rw [z 7 (by decide), a7]
      exact sIs.push n3 (k, x)
    · rw [q5]
      rfl
    · show sIs nI ((sA σ4 8 s.length (nI h)).2 8) hs2
      rw [sA_self, q1, a8, q5]
      exact sIs.push q4 h
    · show nI (max (hi - 1) h) = nI (hi2 - 1)
      rw [q6]
      congr 1
      omega
    · intro y hy
      rw [q5] at hy
      rw [List.length_cons]
      rcases List.mem_cons.mp hy with rfl | hy
      · omega
      · have := q7 y hy
        omega
    · rw [List.length_cons, q6]
      omega
    · rw [q5, List.length_cons, List.length_cons]
      omega
    · intro j j1 j2 j3 j4
      have : (emS σ4 h s.length hi).1 j = σ4.1 j := by
        unfold emS
        show upd (upd (upd σ4.1 11 _) 12 _) 15 _ j = _
        rw [pk_un j4, pk_un j3, pk_un j2]
      rw [this, q2 j j2, cO j j1]
    · intro j j1 j2 j3
      rw [z j j3, aO j j1 j2]
  unfold hN at hh
  split at hh
  · -- no part
    rename_i ha
    have hh : some (0 :: hs, max hi 1) = some (hs2, hi2) := hh
    simp only [Option.some.injEq, Prod.mk.injEq] at hh
    rw [ha] at start ⊢
    obtain ⟨d1, d2⟩ := done σ3 0 hs rfl (fun _ _ => rfl) c11 n5 hh.1.symm hh.2.symm n7 (by omega) n9
    exact ⟨_, start.trans (em_fin (a := 0) (h := 0) c11 (by omega) c12 (by omega) (by omega)), d1, d2⟩
  · split at hh
    · -- one part
      rename_i ha
      rw [ha] at start ⊢
      cases hs with
      | nil => exact absurd hh (by simp)
      | cons y s =>
        have hh : some ((y + 1) :: s, max hi (y + 2)) = some (hs2, hi2) := hh
        simp only [Option.some.injEq, Prod.mk.injEq] at hh
        simp only [List.length_cons] at n9 c11
        have hy := n7 y (by simp)
        obtain ⟨d1, d2⟩ := done (sF σ3 11 (nI s.length)) (y + 1) s rfl (fun j hj => if_neg hj) rfl n5.2 hh.1.symm hh.2.symm (fun z hz => n7 z (by simp [hz])) (by omega) (by omega)
        refine ⟨_, start.trans ((em_st (i := 0) (h := 0) (x := y) (by omega) (by omega) c11 (by omega) (by rw [a8]; exact n5.1) (by omega) (by omega)).trans ?_), d1, d2⟩
        rw [show max 0 (y + 1) = y + 1 by omega]
        exact em_fin (a := 1) (l := s.length) rfl (by omega) c12 (by omega) (by omega)
    · -- two parts
      rename_i ha0 ha1
      have ha : ar k = 2 := by
        have : ar k ≤ 2 := by unfold ar; have := pt_le k; repeat' split
                              all_goals omega
        omega
      rw [ha] at start ⊢
      cases hs with
      | nil => exact absurd hh (by simp)
      | cons y hs =>
      cases hs with
      | nil => exact absurd hh (by simp)
      | cons x2 s =>
        have hh : some ((max x2 y + 1) :: s, max hi (max x2 y + 2)) = some (hs2, hi2) := hh
        simp only [Option.some.injEq, Prod.mk.injEq] at hh
        simp only [List.length_cons] at n9 c11
        have hy := n7 y (by simp)
        have hx := n7 x2 (by simp)
        obtain ⟨d1, d2⟩ := done (sF (sF σ3 11 (nI (s.length + 1))) 11 (nI s.length)) (max x2 y + 1) s rfl (fun j hj => by show upd (upd σ3.1 11 _) 11 _ j = _; rw [pk_un hj, pk_un hj]) rfl n5.2.2 hh.1.symm hh.2.symm (fun z hz => n7 z (by simp [hz])) (by omega) (by omega)
        refine ⟨_, start.trans ((em_st (i := 0) (h := 0) (x := y) (by omega) (by omega) c11 (by omega) (by rw [a8]; exact n5.1) (by omega) (by omega)).trans ((em_st (i := 1) (x := x2) (by omega) (by omega) rfl (by omega) (by show σ3.2 8 s.length = _; rw [a8]; exact n5.2.1) (by omega) (by omega)).trans ?_)), d1, d2⟩
        rw [show max (max 0 (y + 1)) (x2 + 1) = max x2 y + 1 by omega]
        exact em_fin (a := 2) (l := s.length) rfl (by omega) c12 (by omega) (by omega)
