/-! PURE ROWS 33: one line done, on both sides. -/
theorem cIn_fl (x : Int32) : cIn (x >>> (16 &&& 31) : Int32) := by
  have h := pk_shr x (16 &&& 31) 16 (by decide)
  have h1 := Int32.le_toInt x
  have h2 := Int32.toInt_lt x
  rw [Int.shiftRight_eq_div_pow] at h
  unfold cIn
  rw [h]
  omega
theorem sIs.eqs {a b : Nat → Int32} : ∀ {s : List Int32}, sIs id a s → sIs id b s → ∀ j, j < s.length → a j = b j := by
  intro s
  induction s with
  | nil => intro _ _ j hj; exact absurd hj (by simp)
  | cons x s ih =>
    intro h1 h2 j hj
    simp only [List.length_cons] at hj
    by_cases q : j = s.length
    · rw [q]
      exact h1.1.trans h2.1.symm
    · exact ih h1.2 h2.2 j (by omega)
def gFr (τ τ2 : St) : Prop := (∀ k, k ≠ 5 → k ≠ 8 → k ≠ 9 → k ≠ 10 → k ≠ 11 → k ≠ 12 → τ2.1 k = τ.1 k) ∧ ∀ k, k ≠ 12 → k ≠ 13 → k ≠ 14 → k ≠ 15 → τ2.2 k = τ.2 k
theorem gFr.tr {a b c : St} (h : gFr a b) (h2 : gFr b c) : gFr a c := ⟨fun k x y z u v w => (h2.1 k x y z u v w).trans (h.1 k x y z u v w), fun k x y z u => (h2.2 k x y z u).trans (h.2 k x y z u)⟩
theorem mFr.g {a b : St} (h : mFr a b) : gFr a b := ⟨h.1, fun k x y z _ => h.2 k x y z⟩
theorem pm_91 {N l T w : Nat} {kk : Int32} {A : Nat → Nat → Int32} (hN1 : 300 ≤ N) (hl : l < 28) (hT : T ≤ 48) (hw : w ≤ 5) : ∀ (o : Nat) (ts E : List (Nat × Int32)) (q hi : Nat) (vs : List Int32) (τ : St) (f : Nat), τ.2 4 l = nI T → q + 1 + ts.length = 48 * l + T → ts.length ≤ 54 → τ.1 10 = nI q → tkM τ (q + 1) ts → nmO ts → run ts [] o 1 = Sum.inr E → envIs τ A → τ.1 12 = nI hi → hi ≤ 60 → sIs id (τ.2 15) vs → vs.length + (o + 1) = w → o + 1 < f →
    ∃ (τ2 : St) (vs2 : List Int32) (f2 : Nat), J_Mod_done_91 N f (nI l) kk (nI w) (nI vs.length) τ = J_Mod_done_91 N (f2 + 1) (nI l) kk (nI w) (nI w) τ2 ∧ exV 1 A E (vs, τ.1 5) = some (vs2, τ2.1 5) ∧ vs2.length = w ∧ sIs id (τ2.2 15) vs2 ∧ gFr τ τ2 ∧ ∃ hi2 : Nat, hi2 ≤ 60 ∧ τ2.1 12 = nI hi2 := by
  intro o
  induction o with
  | zero =>
    intro ts E q hi vs τ f h1 h2 h3 h4 h5 h6 h7 h8 h9 h10 h11 h12 hf
    obtain ⟨f, rfl⟩ : ∃ k, f = k + 2 := ⟨f - 2, by omega⟩
    obtain ⟨E1, E2, q2, τ2, v, h, hi2, j, g1, g2, g3, g4, g5, g6, g7, g8, g9, g10, g11⟩ := pu_work (rl := 1) (A := A) hN1 (by omega) (show l ≤ 28 by omega) h1 hT h2 h3 h5 h6 h7 h8 h9 h10
    have hz : E2 = [] := by
      rcases g11 with z | ⟨ts2, z, -⟩
      · exact z.2.1
      · omega
    subst hz
    rw [List.append_nil] at g2
    subst g2
    have g1 : J_Mod_work N (nI l) (nI (q + 1)) 1 τ = some (v, τ2) := g1
    refine ⟨sA τ2 15 vs.length v, v :: vs, f, ?_, ?_, ?_, ?_, ?_, hi2, g8, g7⟩
    · rw [J_Mod_done_91, if_neg (nI_ge (by omega) (by omega)), h4, nI_1, g1, ax_bs, if_pos (pu_inB (by omega) (by decide)), nI_clamp (by omega), ax_let, nI_1, ax_let, show vs.length + 1 = w by omega]
    · have := g3 vs
      rw [List.nil_append] at this
      exact this
    · rw [List.length_cons]
      omega
    · rw [sA_self]
      refine sIs.push (c := id) ?_ v
      rw [g10.2 15 (by decide) (by decide) (by decide)]
      exact h11
    · exact g10.g.tr ⟨fun _ _ _ _ _ _ _ => rfl, fun k _ _ _ d => sA_ne _ _ _ d⟩
  | succ o ih =>
    intro ts E q hi vs τ f h1 h2 h3 h4 h5 h6 h7 h8 h9 h10 h11 h12 hf
    obtain ⟨f, rfl⟩ : ∃ k, f = k + 1 := ⟨f - 1, by omega⟩
    obtain ⟨E1, E2, q2, τ2, v, h, hi2, j, g1, g2, g3, g4, g5, g6, g7, g8, g9, g10, g11⟩ := pu_work (rl := 1) (A := A) hN1 (by omega) (show l ≤ 28 by omega) h1 hT h2 h3 h5 h6 h7 h8 h9 h10
    rcases g11 with z | ⟨ts2, z1, z2, z3, z4, z5, z6⟩
    · omega
    have g1 : J_Mod_work N (nI l) (nI (q + 1)) 1 τ = some (v, τ2) := g1
    have fr : gFr τ (sA τ2 15 vs.length v) := g10.g.tr ⟨fun _ _ _ _ _ _ _ => rfl, fun k _ _ _ d => sA_ne _ _ _ d⟩
    have e4 : (sA τ2 15 vs.length v).2 4 l = nI T := by
      rw [fr.2 4 (by decide) (by decide) (by decide) (by decide)]
      exact h1
    have z3' : tkM (sA τ2 15 vs.length v) (q2 + 1) ts2 := tkM.cg (fr.2 1 (by decide) (by decide) (by decide) (by decide)) (fr.2 2 (by decide) (by decide) (by decide) (by decide)) z3
    have hA' : envIs (sA τ2 15 vs.length v) A := ⟨(fr.2 7 (by decide) (by decide) (by decide) (by decide)).trans h8.1, (fr.2 9 (by decide) (by decide) (by decide) (by decide)).trans h8.2.1, (fr.2 10 (by decide) (by decide) (by decide) (by decide)).trans h8.2.2.1, (fr.2 11 (by decide) (by decide) (by decide) (by decide)).trans h8.2.2.2⟩
    have st : sIs id ((sA τ2 15 vs.length v).2 15) (v :: vs) := by
      rw [sA_self]
      refine sIs.push (c := id) ?_ v
      rw [g10.2 15 (by decide) (by decide) (by decide)]
      exact h11
    obtain ⟨τ3, vs3, f3, i1, i2, i3, i4, i5, i6⟩ := ih ts2 E2 q2 hi2 (v :: vs) (sA τ2 15 vs.length v) f e4 (by omega) (by omega) g9 z3' z4 z5 hA' g7 g8 st (by rw [List.length_cons]; omega) (by omega)
    refine ⟨τ3, vs3, f3, ?_, ?_, i3, i4, fr.tr i5, i6⟩
    · rw [← i1, J_Mod_done_91, if_neg (nI_ge (by omega) (by omega)), h4, nI_1, g1, ax_bs, if_pos (pu_inB (by omega) (by decide)), nI_clamp (by omega), ax_let, nI_1, ax_let]
      rfl
    · rw [g2]
      have := g3 vs
      rw [List.nil_append] at this
      exact exV_app _ _ _ _ _ this i2
def hC (σ σ2 : St) : Prop := (∀ k, k ≠ 19 → k ≠ 22 → σ2.1 k = σ.1 k) ∧ ∀ k, k ≠ 19 → k ≠ 20 → k ≠ 21 → k ≠ 22 → σ2.2 k = σ.2 k
def hM (τ τ2 : St) : Prop := (∀ k, k ≠ 5 → k ≠ 8 → k ≠ 9 → k ≠ 10 → k ≠ 11 → k ≠ 12 → τ2.1 k = τ.1 k) ∧ ∀ k, k ≠ 7 → k ≠ 9 → k ≠ 10 → k ≠ 12 → k ≠ 13 → k ≠ 14 → k ≠ 15 → τ2.2 k = τ.2 k
theorem hC.tr {a b c : St} (h : hC a b) (h2 : hC b c) : hC a c := ⟨fun k x y => (h2.1 k x y).trans (h.1 k x y), fun k x y z u => (h2.2 k x y z u).trans (h.2 k x y z u)⟩
theorem hM.tr {a b c : St} (h : hM a b) (h2 : hM b c) : hM a c := ⟨fun k x y z u v w => (h2.1 k x y z u v w).trans (h.1 k x y z u v w), fun k x y z u v w t => (h2.2 k x y z u v w t).trans (h.2 k x y z u v w t)⟩
theorem wFr.h {a b : St} (h : wFr a b) : hC a b := ⟨h.1, fun k _ _ c _ => h.2 k c⟩
theorem gFr.h {a b : St} (h : gFr a b) : hM a b := ⟨h.1, fun k _ _ _ x y z u => h.2 k x y z u⟩
theorem dFr.hc {a b : St} (h : dFr 22 a b) : hC a b := ⟨fun k _ _ => by rw [h.1], fun k _ _ _ d => h.2 k d⟩
theorem dFr.hm {a b : St} (h : dFr 10 a b) : hM a b := ⟨fun k _ _ _ _ _ _ => by rw [h.1], fun k _ _ c _ _ _ _ => h.2 k c⟩
/-- how a done line ends -/
def doR (σ τ : St) (n : Nat) (J K : Option (Int32 × St)) : Prop := ∃ (r : Nat) (σ2 τ2 : St), r ≤ n ∧ J = some (nI r, σ2) ∧ K = some (nI r, τ2) ∧ hC σ σ2 ∧ hM τ τ2 ∧ envR σ2 τ2 ∧ σ2.1 19 = τ2.1 5 ∧ ∃ hi : Nat, hi ≤ 60 ∧ τ2.1 12 = nI hi
theorem envR.c {σ τ : St} (h : envR σ τ) : envC σ τ.2 := h
theorem envR.wg {σ τ σ2 τ2 : St} (h : envR σ τ) (h1 : wFr σ σ2) (h2 : gFr τ τ2) : envR σ2 τ2 := ⟨by rw [h1.2 19 (by decide), h2.2 7 (by decide) (by decide) (by decide) (by decide)]; exact h.1, by rw [h1.2 20 (by decide), h2.2 9 (by decide) (by decide) (by decide) (by decide)]; exact h.2.1, by rw [h1.2 22 (by decide), h2.2 10 (by decide) (by decide) (by decide) (by decide)]; exact h.2.2.1, by rw [h1.2 23 (by decide), h2.2 11 (by decide) (by decide) (by decide) (by decide)]; exact h.2.2.2⟩
theorem envR.d {σ τ σ2 τ2 : St} (h : envR σ τ) (h1 : dFr 22 σ σ2) (h2 : dFr 10 τ τ2) (h3 : dEq σ2 τ2) : envR σ2 τ2 := ⟨by rw [h1.2 19 (by decide), h2.2 7 (by decide)]; exact h.1, by rw [h1.2 20 (by decide), h2.2 9 (by decide)]; exact h.2.1, h3, by rw [h1.2 23 (by decide), h2.2 11 (by decide)]; exact h.2.2.2⟩
theorem sp_0 {k : Nat} (h1 : 4 ≤ k) (h2 : k ≤ 12) (h : sp k = 0) : k = 5 ∨ k = 7 := by
  unfold sp at h
  repeat' split at h
  all_goals omega
theorem sp_1 {k : Nat} (h1 : 4 ≤ k) (h2 : k ≤ 12) (h : 1 ≤ sp k) : (k = 4 ∧ sp k = 1) ∨ (k = 6 ∧ sp k = 1) ∨ (k = 8 ∧ sp k = 1) ∨ (k = 9 ∧ sp k = 3) ∨ (k = 10 ∧ sp k = 5) ∨ (k = 11 ∧ sp k = 5) ∨ (k = 12 ∧ sp k = 2) := by
  unfold sp at h ⊢
  repeat' split at h
  all_goals (repeat' split)
  all_goals omega
theorem pu_draw {N a : Nat} {σ : St} : J_Machine_draw N (nI a) σ = (if nI a = 8 then J_Screen_paintAll N ((σ.2 21 0 >>> (16 &&& 31) : Int32) &&& 15) σ else if nI a = 9 then J_Screen_paint N (σ.2 21 0 >>> (16 &&& 31) : Int32) (σ.2 21 1 >>> (16 &&& 31) : Int32) ((σ.2 21 2 >>> (16 &&& 31) : Int32) &&& 15) σ else if nI a = 10 then J_Screen_paintLine N (σ.2 21 0 >>> (16 &&& 31) : Int32) (σ.2 21 1 >>> (16 &&& 31) : Int32) (σ.2 21 2 >>> (16 &&& 31) : Int32) (σ.2 21 3 >>> (16 &&& 31) : Int32) ((σ.2 21 4 >>> (16 &&& 31) : Int32) &&& 15) σ else if nI a = 11 then J_Screen_paintBox N (σ.2 21 0 >>> (16 &&& 31) : Int32) (σ.2 21 1 >>> (16 &&& 31) : Int32) (σ.2 21 2 >>> (16 &&& 31) : Int32) (σ.2 21 3 >>> (16 &&& 31) : Int32) ((σ.2 21 4 >>> (16 &&& 31) : Int32) &&& 15) σ else some σ) := by
  have id1 : ∀ X : Option St, ax_bindV X (fun s => some s) = X := by
    intro X
    cases X <;> rfl
  have b0 : inB 0 16 = true := by decide
  have b1 : inB 1 16 = true := by decide
  have b2 : inB 2 16 = true := by decide
  have b3 : inB 3 16 = true := by decide
  have b4 : inB 4 16 = true := by decide
  simp only [J_Machine_draw, b0, b1, b2, b3, b4, eq_self, if_true, J_Machine_colour, pu_cfloor, ax_bs, id1]
  rfl
