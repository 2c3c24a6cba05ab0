/-! PURE ROWS 12: stacks in arrays; the reference's check of a line's expressions. -/
def sIs {α : Type} (c : α → Int32) (a : Nat → Int32) : List α → Prop
  | [] => True
  | w :: ws => a ws.length = c w ∧ sIs c a ws
theorem sIs.cg {α : Type} {c : α → Int32} {a b : Nat → Int32} : ∀ {ws : List α}, sIs c a ws → (∀ j, j < ws.length → b j = a j) → sIs c b ws := by
  intro ws
  induction ws with
  | nil => intro _ _; exact trivial
  | cons w ws ih =>
    intro h hb
    exact ⟨(hb _ (by simp only [List.length_cons]; omega)).trans h.1, ih h.2 (fun j hj => hb j (by simp only [List.length_cons]; omega))⟩
theorem sIs.up {α : Type} {c : α → Int32} {a : Nat → Int32} {ws : List α} (h : sIs c a ws) {i : Nat} {v : Int32} (hi : ws.length ≤ i) : sIs c (upd a i v) ws :=
  h.cg (fun j hj => pk_un (by omega))
theorem sIs.push {α : Type} {c : α → Int32} {a : Nat → Int32} {ws : List α} (h : sIs c a ws) (w : α) : sIs c (upd a ws.length (c w)) (w :: ws) :=
  ⟨pk_us, h.up (Nat.le_refl _)⟩
/-- the reference's kinds -/
def kM (k : Nat) : Nat := if k = 1 then 0 else if k = 2 then 1 else if k = 3 then 2 else if 4 ≤ k ∧ k ≤ 12 then k + 6 else if 13 ≤ k ∧ k ≤ 20 then k + 7 else k
def okk (k : Nat) : Bool := decide (1 ≤ k) && (decide (k ≤ 20) || isS k)
theorem okk_lt {k : Nat} (h : okk k = true) : k ≤ 126 := by
  simp only [okk, isS, List.contains_cons, List.contains_nil, Bool.or_false, Bool.or_eq_true, Bool.and_eq_true, decide_eq_true_eq, beq_iff_eq] at h
  omega
/-- a line's tokens in the reference's arrays, from place i on -/
def tkM (τ : St) : Nat → List (Nat × Int32) → Prop
  | _, [] => True
  | i, t :: ts => okk t.1 = true ∧ τ.2 1 i = nI (kM t.1) ∧ (t.1 = 2 ∨ t.1 = 3 → τ.2 2 i = t.2) ∧ tkM τ (i + 1) ts
theorem tkM.cg {τ τ2 : St} (h1 : τ2.2 1 = τ.2 1) (h2 : τ2.2 2 = τ.2 2) : ∀ {ts : List (Nat × Int32)} {i : Nat}, tkM τ i ts → tkM τ2 i ts := by
  intro ts
  induction ts with
  | nil => intro _ _; exact trivial
  | cons t ts ih =>
    intro i h
    exact ⟨h.1, by rw [h1]; exact h.2.1, by rw [h2]; exact h.2.2.1, ih h.2.2.2⟩
def lvI (a : Int32) : Int32 := if a = 124 then 1 else if a = 38 then 2 else if a = 60 then 3 else if a = 62 then 3 else if a = 61 then 3 else if a = 43 then 4 else if a = 45 then 4 else if a = 42 then 5 else if a = 47 then 5 else if a = 37 then 5 else 0
def rlI (a : Int32) : Int32 := if a = 60 then 1 else if a = 62 then 1 else if a = 61 then 1 else 0
theorem pu_rel {N : Nat} {a : Int32} {τ : St} : J_Mod_relation N a τ = some (rlI a, τ) := by
  rw [J_Mod_relation, rlI]
  repeat' split
  all_goals rfl
theorem pu_lev {N : Nat} {a : Int32} {τ : St} : J_Mod_level N a τ = some (lvI a, τ) := by
  rw [J_Mod_level, pu_rel, ax_bs, lvI, rlI]
  repeat' split
  all_goals first | rfl | (exfalso; simp_all)
theorem kM_f1 : ∀ k, k ≤ 126 → okk k = true → (lvI (nI (kM k)) = nI (if rk k = 6 then 0 else rk k)) ∧ (rlI (nI (kM k)) = if rk k = 3 then 1 else 0) := by decide +kernel
theorem kM_f2a : ∀ k, k ≤ 126 → okk k = true → (nI (kM k) = 41 ↔ k = 41) ∧ (nI (kM k) = 44 ↔ k = 44) ∧ (nI (kM k) = 45 ↔ k = 45) ∧ (nI (kM k) = 33 ↔ k = 33) := by decide +kernel
theorem kM_f2b : ∀ k, k ≤ 126 → okk k = true → (nI (kM k) = 64 ↔ k = 64) ∧ (nI (kM k) = 40 ↔ k = 40) ∧ (nI (kM k) = 1 ↔ k = 2) ∧ (nI (kM k) = 2 ↔ k = 3) := by decide +kernel
theorem kM_f3 : ∀ k, k ≤ 126 → okk k = true → (nI (kM k) = 24 ↔ k = 17) ∧ (nI (kM k) = 25 ↔ k = 18) ∧ (nI (kM k) = 26 ↔ k = 19) ∧ (nI (kM k) < 20 ↔ kM k < 20) ∧ (27 < nI (kM k) ↔ 27 < kM k) := by decide +kernel
theorem kM_fn : ∀ k, k ≤ 126 → okk k = true → ((kM k < 20 ∨ 27 < kM k) ↔ ¬ (13 ≤ k ∧ k ≤ 20)) := by decide +kernel
/-- how the reference's loop ends -/
def gR (n p : Nat) (l : Nat) : Nat ⊕ List (Nat × Int32) → Int32
  | Sum.inl i => if i = l then -1 - nI n else nI (p + i)
  | Sum.inr _ => nI n
theorem gR_add {n p l c : Nat} {e : List (Nat × Int32)} {x : Nat ⊕ List (Nat × Int32)} : gR n p (l + c) (addE e c x) = gR n (p + c) l x := by
  cases x with
  | inl i =>
    show (if i + c = l + c then -1 - nI n else nI (p + (i + c))) = if i = l then -1 - nI n else nI (p + c + i)
    by_cases q : i = l
    · rw [if_pos q, if_pos (by omega)]
    · rw [if_neg q, if_neg (by omega)]
      congr 1
      omega
  | inr E => rfl
/-- the levels in the array -/
def eM (τ : St) (o : Nat) (ws : List (Nat × Nat)) : Prop := sIs nI (τ.2 14) (lv o ws)
def eFr (τ τ2 : St) : Prop := τ2.1 = τ.1 ∧ ∀ k, k ≠ 14 → τ2.2 k = τ.2 k
theorem eFr.tr {a b c : St} (h : eFr a b) (h2 : eFr b c) : eFr a c := ⟨h2.1.trans h.1, fun k hk => (h2.2 k hk).trans (h.2 k hk)⟩
theorem eFr.s (τ : St) (i : Nat) (v : Int32) : eFr τ (sA τ 14 i v) := ⟨rfl, fun _ h => sA_ne _ _ _ h⟩
theorem tll_len (o : Nat) : ∀ ws, (tll o ws).length ≤ ws.length := by
  have key : ∀ ws, (lv o ws).length ≤ ws.length + 1 := by
    intro ws
    induction ws with
    | nil => simp only [lv, List.length_cons, List.length_nil]; omega
    | cons w ws ih =>
      unfold lv
      have h2 := lv_eq o ws
      repeat' split
      · simp only [List.length_cons]; omega
      · rw [h2] at ih ⊢
        simp only [List.length_cons, List.tail_cons] at ih ⊢
        omega
      · simp only [List.length_cons]; omega
  intro ws
  have a := key ws
  rw [lv_eq, List.length_cons] at a
  omega
theorem lv_unw {r : Nat} (h : 4 ≤ r) (o : Nat) (ws : List (Nat × Nat)) : lv o (unw r ws).2 = lv o ws := by
  rw [lv_eq, lv_eq, unw_hdl (by omega), unw_tll (by omega), unw_flg h]
theorem hdl_le {o : Nat} (ho : o ≤ 5) : ∀ ws, allW ws → hdl o ws ≤ 5 := by
  intro ws
  induction ws with
  | nil => intro _; exact ho
  | cons w ws ih =>
    intro h
    unfold hdl
    split
    · have a := pt_le w.1
      rcases h.1 with b | b | b <;> omega
    · exact ih h.2
theorem flg_le {ws : List (Nat × Nat)} (h : srt ws) : flg ws ≤ 1 := by
  rw [flg_4 h]
  split <;> omega
theorem okW_op {k : Nat} (h : 1 ≤ rk k) : okW (k, 0) := Or.inl ⟨h, rfl⟩
theorem unw_top {ws : List (Nat × Nat)} {w : Nat × Nat} {ws2 : List (Nat × Nat)} (h : (unw 1 ws).2 = w :: ws2) : rk w.1 = 0 := by
  have a := unw_tr 1 (Nat.le_refl 1) ws
  rw [h] at a
  have b : rk w.1 < 1 := a
  omega
/-- what waits stays well made -/
theorem jn_inv {k : Nat} {ws : List (Nat × Nat)} {o : Nat} (hw : allW ws) (hs : srt ws) {e : List (Nat × Int32)} {ws2 : List (Nat × Nat)} {o2 m2 : Nat} (h : jn k ws o = some (e, ws2, o2, m2)) : allW ws2 ∧ srt ws2 ∧ (m2 = 0 → tr ws2 ≤ 5) ∧ o2 ≤ o ∧ m2 ≤ 1 ∧ e.length + ws2.length ≤ ws.length + 1 := by
  have u1 := unw_all 1 ws hw
  have u2 := unw_srt 1 ws hs
  have u3 := unw_len 1 ws
  unfold jn at h
  split at h
  · split at h
    · exact absurd h (by simp)
    · rename_i w ws3 hq
      rw [hq] at u1 u2 u3
      have u4 := unw_len 6 ws3
      have u5 := unw_tr 6 (by omega) ws3
      simp only [List.length_cons] at u3
      split at h
      · split at h
        all_goals
          simp only [Option.some.injEq, Prod.mk.injEq] at h
          obtain ⟨rfl, rfl, rfl, rfl⟩ := h
          refine ⟨unw_all 6 _ u1.2, unw_srt 6 _ u2.2, fun _ => by omega, Nat.le_refl _, by omega, ?_⟩
          simp only [List.length_append, List.length_cons]
          omega
      · exact absurd h (by simp)
  · split at h
    · split at h
      · rename_i hq
        rw [hq] at u3
        split at h
        · exact absurd h (by simp)
        · simp only [Option.some.injEq, Prod.mk.injEq] at h
          obtain ⟨rfl, rfl, rfl, rfl⟩ := h
          refine ⟨trivial, trivial, fun z => by omega, by omega, by omega, ?_⟩
          omega
      · rename_i w ws3 hq
        have u0 := unw_top hq
        rw [hq] at u1 u2 u3
        simp only [List.length_cons] at u3
        split at h
        · exact absurd h (by simp)
        · rename_i hz
          simp only [Option.some.injEq, Prod.mk.injEq] at h
          obtain ⟨rfl, rfl, rfl, rfl⟩ := h
          refine ⟨⟨?_, u1.2⟩, ⟨fun z => ?_, u2.2⟩, fun z => by omega, by omega, by omega, ?_⟩
          · rcases u1.1 with a | a | a
            · omega
            · omega
            · exact Or.inr (Or.inr ⟨a.1, a.2.1, by show w.2 - 1 + 1 ≤ pt w.1; omega⟩)
          · have : 1 ≤ rk w.1 := z
            omega
          · simp only [List.length_cons]
            omega
    · split at h
      · exact absurd h (by simp)
      · rename_i hr
        have hrk := rk_le k
        split at h
        · split at h
          · exact absurd h (by simp)
          · rename_i h3 ht
            have v3 := unw_len 4 ws
            have v4 := unw_tr 4 (by omega) ws
            simp only [Option.some.injEq, Prod.mk.injEq] at h
            obtain ⟨rfl, rfl, rfl, rfl⟩ := h
            refine ⟨⟨okW_op (by omega), unw_all 4 ws hw⟩, ⟨fun _ _ => by show _ < rk k; omega, unw_srt 4 ws hs⟩, fun z => by omega, by omega, by omega, ?_⟩
            simp only [List.length_cons]
            omega
        · have v3 := unw_len (rk k) ws
          have v4 := unw_tr (rk k) (by omega) ws
          simp only [Option.some.injEq, Prod.mk.injEq] at h
          obtain ⟨rfl, rfl, rfl, rfl⟩ := h
          refine ⟨⟨okW_op (by omega), unw_all _ ws hw⟩, ⟨fun _ _ => v4, unw_srt _ ws hs⟩, fun z => by omega, by omega, by omega, ?_⟩
          simp only [List.length_cons]
          omega
/-- the levels behind a joining token, as the reference keeps them -/
theorem sIs.hd {a : Nat → Int32} {h h2 : Nat} {t : List Nat} (q : sIs nI a (h :: t)) : sIs nI (upd a t.length (nI h2)) (h2 :: t) := sIs.push q.2 h2
theorem pu_327 {N l p : Nat} {n l7 : Int32} {K : Int32 → Int32 → Int32 → Int32 → St → Option (Int32 × St)} {τ : St} (hl : l < 110) {r : Nat} (hr : lvI l7 = nI r) (hr6 : r ≤ 6) {v : Nat} (hv : τ.2 14 l = nI v) (hv1 : v < 100) : J_Mod_expressions_327 N K n (nI l) (nI p) l7 τ = if 3 ≤ r then K n (nI l) 1 (nI (p + 1)) τ else K n (nI l) 1 (nI (p + 1)) (sA τ 14 l (nI (v / 2 * 2))) := by
  rw [J_Mod_expressions_327, pu_lev, ax_bs, hr]
  by_cases q : 3 ≤ r
  · rw [if_pos q, if_pos (show (3 : Int32) ≤ nI r from nI_le (a := 3) q (by omega)), ax_let, nI_1]
  · rw [if_neg q, if_neg (show ¬ (3 : Int32) ≤ nI r from nI_ge (b := 3) (by omega) (by decide)), if_pos (pu_inB hl (by decide)), if_pos (pu_inB hl (by decide)), nI_clamp (by omega), hv, ax_let, ax_let, nI_1, show (2 : Int32) = nI 2 from rfl, pk_div (by omega) (by decide) (by decide), pk_mul]
theorem pu_308 {N l p : Nat} {n l7 : Int32} {K : Int32 → Int32 → Int32 → Int32 → St → Option (Int32 × St)} {τ : St} (hl : l < 110) {r : Nat} (hr : lvI l7 = nI r) (hr6 : r ≤ 6) (hq : rlI l7 = if r = 3 then 1 else 0) {v : Nat} (hv : τ.2 14 l = nI v) (hv1 : v < 50) : J_Mod_expressions_308 N K n (nI l) (nI p) l7 τ = if r = 3 then K n (nI l) 1 (nI (p + 1)) (sA τ 14 l (nI (v + 1))) else if 3 ≤ r then K n (nI l) 1 (nI (p + 1)) τ else K n (nI l) 1 (nI (p + 1)) (sA τ 14 l (nI (v / 2 * 2))) := by
  rw [J_Mod_expressions_308, pu_rel, ax_bs, hq]
  by_cases q : r = 3
  · rw [if_pos q, if_neg (by decide), if_pos (pu_inB hl (by decide)), if_pos (pu_inB hl (by decide)), nI_clamp (by omega), hv, ax_let, nI_1, pu_327 hl hr hr6 (v := v + 1) (by rw [sA_self, pk_us]) (by omega), if_pos (by omega), if_pos q]
  · rw [if_neg q, if_pos rfl, pu_327 hl hr hr6 hv (by omega), if_neg q]
theorem run_j0 {k : Nat} {v : Int32} {ts : List (Nat × Int32)} {ws : List (Nat × Nat)} {o : Nat} (h : jn k ws o = none) : run ((k, v) :: ts) ws o 0 = Sum.inl 0 := by
  rw [run.eq_def]
  simp only [if_true, h]
theorem run_j1 {k : Nat} {v : Int32} {ts : List (Nat × Int32)} {ws : List (Nat × Nat)} {o : Nat} {e : List (Nat × Int32)} {ws2 : List (Nat × Nat)} {o2 m2 : Nat} (h : jn k ws o = some (e, ws2, o2, m2)) : run ((k, v) :: ts) ws o 0 = addE e 1 (run ts ws2 o2 m2) := by
  rw [run.eq_def]
  simp only [if_true, h]
theorem run_p1 {k : Nat} {v : Int32} {ts : List (Nat × Int32)} {ws : List (Nat × Nat)} {o : Nat} (h : k = 2 ∨ k = 3) : run ((k, v) :: ts) ws o 1 = addE ((k, v) :: (unw 6 ws).1) 1 (run ts (unw 6 ws).2 o 0) := by
  rw [run.eq_def]
  simp only [show ¬ (1 = 0) by decide, if_false, if_pos h]
theorem run_p2 {v : Int32} {ts : List (Nat × Int32)} {ws : List (Nat × Nat)} {o : Nat} : run ((45, v) :: ts) ws o 1 = addE [] 1 (run ts ((21, 0) :: ws) o 1) := by
  rw [run.eq_def]
  rfl
theorem run_p3 {k : Nat} {v : Int32} {ts : List (Nat × Int32)} {ws : List (Nat × Nat)} {o : Nat} (h : k = 33 ∨ k = 64 ∨ k = 40) : run ((k, v) :: ts) ws o 1 = addE [] 1 (run ts ((k, 0) :: ws) o 1) := by
  rw [run.eq_def]
  simp only [show ¬ (1 = 0) by decide, if_false, if_pos h, if_neg (show ¬ (k = 2 ∨ k = 3) by omega), if_neg (show ¬ k = 45 by omega)]
theorem run_p4 {k : Nat} {v : Int32} {ws : List (Nat × Nat)} {o : Nat} (h : 13 ≤ k ∧ k ≤ 20) : run [(k, v)] ws o 1 = Sum.inl 1 := by
  rw [run.eq_def]
  simp only [show ¬ (1 = 0) by decide, if_false, if_neg (show ¬ (k = 33 ∨ k = 64 ∨ k = 40) by omega), if_neg (show ¬ (k = 2 ∨ k = 3) by omega), if_neg (show ¬ k = 45 by omega), if_pos h]
theorem run_p5 {k k2 : Nat} {v v2 : Int32} {ts : List (Nat × Int32)} {ws : List (Nat × Nat)} {o : Nat} (h : 13 ≤ k ∧ k ≤ 20) : run ((k, v) :: (k2, v2) :: ts) ws o 1 = if k2 = 40 then addE [] 2 (run ts ((k, pt k - 1) :: ws) o 1) else Sum.inl 1 := by
  rw [run.eq_def]
  simp only [show ¬ (1 = 0) by decide, if_false, if_neg (show ¬ (k = 33 ∨ k = 64 ∨ k = 40) by omega), if_neg (show ¬ (k = 2 ∨ k = 3) by omega), if_neg (show ¬ k = 45 by omega), if_pos h]
theorem run_p6 {k : Nat} {v : Int32} {ts : List (Nat × Int32)} {ws : List (Nat × Nat)} {o : Nat} (h1 : ¬ (k = 2 ∨ k = 3)) (h2 : ¬ k = 45) (h3 : ¬ (k = 33 ∨ k = 64 ∨ k = 40)) (h : ¬ (13 ≤ k ∧ k ≤ 20)) : run ((k, v) :: ts) ws o 1 = Sum.inl 0 := by
  rw [run.eq_def]
  simp only [show ¬ (1 = 0) by decide, if_false, if_neg h1, if_neg h2, if_neg h3, if_neg h]
theorem run_nil {ws : List (Nat × Nat)} {o m : Nat} : run [] ws o m = if m = 0 ∧ o = 0 ∧ (unw 1 ws).2 = [] then Sum.inr (unw 1 ws).1 else Sum.inl 0 := by
  rw [run.eq_def]
theorem bot (o : Nat) (ws : List (Nat × Nat)) : ((unw 1 ws).2 = [] ∧ tll o ws = [] ∧ hdl o ws = o) ∨ ∃ w ws2, (unw 1 ws).2 = w :: ws2 ∧ rk w.1 = 0 ∧ tll o ws = lv o ws2 ∧ hdl o ws = w.2 := by
  have a := unw_tll (Nat.le_refl 1) o ws
  have b := unw_hdl (Nat.le_refl 1) o ws
  cases h : (unw 1 ws).2 with
  | nil =>
    rw [h] at a b
    exact Or.inl ⟨rfl, a.symm, b.symm⟩
  | cons w ws2 =>
    have c := unw_top h
    rw [h] at a b
    exact Or.inr ⟨w, ws2, rfl, c, a.symm.trans (by rw [tll, if_pos c]), b.symm.trans (by rw [hdl, if_pos c])⟩
