/-! PURE ROWS 3: seal. -/
/-- a statement's number in the class and in the reference -/
def sRel (c m : Int32) : Prop := (m = 2 ∧ c = 3) ∨ (m = 10 ∧ c = 4) ∨ (m = 11 ∧ c = 5) ∨ (m = 12 ∧ c = 6) ∨ (m = 13 ∧ c = 7) ∨ (m = 14 ∧ c = 8) ∨ (m = 15 ∧ c = 9) ∨ (m = 16 ∧ c = 10) ∨ (m = 17 ∧ c = 11) ∨ (m = 18 ∧ c = 12)
/-- line k's jump (class) and its other end (reference), both below e -/
def lineOK (sc jm : Nat → Int32) (ot : Nat → Int32) (k l : Nat) : Prop :=
  ((sc k = 4 ∨ sc k = 5 ∨ sc k = 6) → ∃ e : Nat, k < e ∧ e < l ∧ ot k = nI e ∧ jm k = nI (e + 1)) ∧
  (sc k = 7 → (ot k = -1 ∧ jm k = nI (k + 1)) ∨ ∃ e : Nat, e < k ∧ sc e = 6 ∧ ot k = nI e ∧ jm k = nI e)
theorem lineOK.mono {sc jm ot : Nat → Int32} {k l l2 : Nat} (h : lineOK sc jm ot k l) (hl : l ≤ l2) : lineOK sc jm ot k l2 := by
  refine ⟨fun c => ?_, h.2⟩
  obtain ⟨e, h1, h2, h3⟩ := h.1 c
  exact ⟨e, h1, by omega, h3⟩
def sealInv (n l d : Nat) (σ τ : St) : Prop :=
  σ.1 16 = nI n ∧ τ.1 1 = nI n ∧ σ.1 18 = nI d ∧ d ≤ 4 ∧ l ≤ n ∧ n ≤ 28 ∧ (∀ k, k < n → sRel (σ.2 12 k) (τ.2 1 (48 * k))) ∧
  ∃ o : Nat → Nat, (∀ j, j < d → o j < l ∧ σ.2 18 j = nI (o j) ∧ τ.2 15 j = nI (o j) ∧ (σ.2 12 (o j) = 4 ∨ σ.2 12 (o j) = 5 ∨ σ.2 12 (o j) = 6)) ∧ (∀ i j, i < j → j < d → o i < o j) ∧
    (∀ k, k < l → (∀ j, j < d → o j ≠ k) → lineOK (σ.2 12) (σ.2 17) (τ.2 8) k l)
def sealFr (σ σ2 : St) : Prop := (∀ k, k ≠ 18 → σ2.1 k = σ.1 k) ∧ ∀ k, k ≠ 17 → k ≠ 18 → σ2.2 k = σ.2 k
def sealFrM (τ τ2 : St) : Prop := (∀ k, τ2.1 k = τ.1 k) ∧ ∀ k, k ≠ 8 → k ≠ 15 → τ2.2 k = τ.2 k
theorem sealFr.rf (σ : St) : sealFr σ σ := ⟨fun _ _ => rfl, fun _ _ _ => rfl⟩
theorem sealFr.tr {a b c : St} (h : sealFr a b) (h2 : sealFr b c) : sealFr a c := ⟨fun k hk => (h2.1 k hk).trans (h.1 k hk), fun k h3 h4 => (h2.2 k h3 h4).trans (h.2 k h3 h4)⟩
theorem sealFrM.rf (σ : St) : sealFrM σ σ := ⟨fun _ => rfl, fun _ _ _ => rfl⟩
theorem sealFrM.tr {a b c : St} (h : sealFrM a b) (h2 : sealFrM b c) : sealFrM a c := ⟨fun k => (h2.1 k).trans (h.1 k), fun k h3 h4 => (h2.2 k h3 h4).trans (h.2 k h3 h4)⟩
theorem sealFr.f (σ : St) (v : Int32) : sealFr σ (sF σ 18 v) := ⟨fun k hk => if_neg hk, fun _ _ _ => rfl⟩
theorem sealFr.a17 (σ : St) (i : Nat) (v : Int32) : sealFr σ (sA σ 17 i v) := ⟨fun _ _ => rfl, fun _ h _ => va_up_ne _ _ h⟩
theorem sealFr.a18 (σ : St) (i : Nat) (v : Int32) : sealFr σ (sA σ 18 i v) := ⟨fun _ _ => rfl, fun _ _ h => va_up_ne _ _ h⟩
theorem sealFrM.a8 (σ : St) (i : Nat) (v : Int32) : sealFrM σ (sA σ 8 i v) := ⟨fun _ => rfl, fun _ h _ => va_up_ne _ _ h⟩
theorem sealFrM.a15 (σ : St) (i : Nat) (v : Int32) : sealFrM σ (sA σ 15 i v) := ⟨fun _ => rfl, fun _ _ h => va_up_ne _ _ h⟩
theorem pu_1 {l : Nat} (h : l < 2 ^ 30) : ¬ nI l + 1 = 0 := by
  rw [nI_1]; exact nI_ne0 (by omega) (by omega)
theorem pu_48 (k : Nat) : 48 * nI k = nI (48 * k) := by rw [show (48 : Int32) = nI 48 from rfl, pk_mul]
theorem pu_eqd {d c : Nat} (hd : d < 2 ^ 31) (hc : c < 2 ^ 31) (h : d ≠ c) : ¬ nI d = nI c := fun z => h ((nI_eq hd hc).mp z)
theorem sA_self (σ : St) (k i : Nat) (v : Int32) : (sA σ k i v).2 k = upd (σ.2 k) i v := by
  unfold sA
  exact va_up_self _ _ _
theorem sA_ne (σ : St) {k k2 : Nat} (i : Nat) (v : Int32) (h : k2 ≠ k) : (sA σ k i v).2 k2 = σ.2 k2 := by
  unfold sA
  exact va_up_ne _ _ h
/-- a round of the reference's seal, behind the statement's number v1 -/
def msB (N m : Nat) (l1 l2 : Int32) (v1 : Int32) (σ2 : St) : Option (Int32 × St) :=
  (if v1 = 10 then
  J_Mod_seal_50 N (fun l1 l2 σ => J_Mod_seal_13 N m l1 l2 σ) l1 l2 σ2
  else (if v1 = 12 then
  J_Mod_seal_50 N (fun l1 l2 σ => J_Mod_seal_13 N m l1 l2 σ) l1 l2 σ2
  else (if v1 = 11 then
  (if l1 = 0 then
  some ((l2 + 1), σ2)
  else (if (inB (l1 - 1) 6) = true then (if (inB (48 * (σ2.2 15 (l1 - 1).toNatClampNeg)) 1400) = true then (if (σ2.2 1 (48 * (σ2.2 15 (l1 - 1).toNatClampNeg)).toNatClampNeg) = 10 then
  (if (inB (l1 - 1) 6) = true then (if (inB (σ2.2 15 (l1 - 1).toNatClampNeg) 30) = true then ax_let (sA σ2 8 (σ2.2 15 (l1 - 1).toNatClampNeg).toNatClampNeg l2) (fun σ5 =>
  (if (inB (l1 - 1) 6) = true then ax_let (sA σ5 15 (l1 - 1).toNatClampNeg l2) (fun σ6 =>
  ax_let ((l2 + 1) : Int32) (fun v6 =>
  J_Mod_seal_13 N m l1 v6 σ6)) else none)) else none) else none)
  else some ((l2 + 1), σ2)) else none) else none))
  else (if v1 = 13 then
  (if l1 = 0 then
  some ((l2 + 1), σ2)
  else ax_let ((l1 + (-1)) : Int32) (fun v3 =>
  (if (inB v3 6) = true then (if (inB (σ2.2 15 v3.toNatClampNeg) 30) = true then ax_let (sA σ2 8 (σ2.2 15 v3.toNatClampNeg).toNatClampNeg l2) (fun σ3 =>
  (if (inB v3 6) = true then (if (inB (48 * (σ3.2 15 v3.toNatClampNeg)) 1400) = true then (if (σ3.2 1 (48 * (σ3.2 15 v3.toNatClampNeg)).toNatClampNeg) = 12 then
  (if (inB v3 6) = true then (if (inB l2 30) = true then ax_let (sA σ3 8 l2.toNatClampNeg (σ3.2 15 v3.toNatClampNeg)) (fun σ4 =>
  ax_let ((l2 + 1) : Int32) (fun v5 =>
  J_Mod_seal_13 N m v3 v5 σ4)) else none) else none)
  else ax_let ((l2 + 1) : Int32) (fun v4 =>
  J_Mod_seal_13 N m v3 v4 σ3)) else none) else none)) else none) else none)))
  else ax_let ((l2 + 1) : Int32) (fun v2 =>
  J_Mod_seal_13 N m l1 v2 σ2)))))
/-- what a round of the two loops leaves, or ends with -/
def sealRes (n : Nat) (N m : Nat) (l d : Nat) (σ τ : St) : Prop := ∃ (r : Int32) (σ2 : St), J_Program_findWrongLine_7 N m (nI l) σ = some (r, σ2) ∧ sealFr σ σ2 ∧
  ((¬ r = 0 ∧ ∃ τ2 : St, J_Mod_seal_13 N m (nI d) (nI l) τ = some (r, τ2) ∧ sealFrM τ τ2) ∨
   (r = 0 ∧ ∃ τ2 : St, J_Mod_seal_13 N m (nI d) (nI l) τ = some (0, sF τ2 4 1) ∧ sealFrM τ τ2 ∧ ∀ k, k < n → lineOK (σ2.2 12) (σ2.2 17) (τ2.2 8) k n))
theorem sealRes.step {n N m l d d2 : Nat} {σ σ1 τ τ1 : St} (hl : l < n) (hn : n ≤ 28) (hc : σ.1 16 = nI n) (hfit : J_Program_fits N (nI l) σ = some (1, σ1)) (hf : sealFr σ σ1) (hm : J_Mod_seal_13 N (m + 1) (nI d) (nI l) τ = J_Mod_seal_13 N m (nI d2) (nI (l + 1)) τ1) (hg : sealFrM τ τ1) (h : sealRes n N m (l + 1) d2 σ1 τ1) : sealRes n N (m + 1) l d σ τ := by
  obtain ⟨r, σ2, h1, h2, h3⟩ := h
  refine ⟨r, σ2, ?_, hf.tr h2, ?_⟩
  · rw [J_Program_findWrongLine_7, hc, if_neg (nI_ge hl (by omega)), hfit]
    simp only [ax_bind, ax_let]
    rw [if_neg (by decide), nI_1, h1]
  · rcases h3 with ⟨g1, τ2, g2, g3⟩ | ⟨g1, τ2, g2, g3, g4⟩
    · exact Or.inl ⟨g1, τ2, by rw [hm, g2], hg.tr g3⟩
    · exact Or.inr ⟨g1, τ2, by rw [hm, g2], hg.tr g3, g4⟩
theorem sealRes.bad {n N m l d : Nat} {σ σ1 τ τ1 : St} (hl : l < n) (hn : n ≤ 28) (hc : σ.1 16 = nI n) (hfit : J_Program_fits N (nI l) σ = some (0, σ1)) (hf : sealFr σ σ1) (hm : J_Mod_seal_13 N (m + 1) (nI d) (nI l) τ = some (nI l + 1, τ1)) (hg : sealFrM τ τ1) : sealRes n N (m + 1) l d σ τ := by
  refine ⟨nI l + 1, σ1, ?_, hf, Or.inl ⟨pu_1 (by omega), τ1, hm, hg⟩⟩
  rw [J_Program_findWrongLine_7, hc, if_neg (nI_ge hl (by omega)), hfit]
  simp only [ax_bind, ↓reduceIte]
set_option maxHeartbeats 2000000 in
theorem seal_loop (n N : Nat) : ∀ (m l d : Nat) (σ τ : St), sealInv n l d σ τ → n - l < m → sealRes n N m l d σ τ := by
  intro m
  induction m with
  | zero => intro l d σ τ _ h; omega
  | succ m ih =>
    intro l d σ τ hI hm
    obtain ⟨hc, ht, hd, hd4, hln, hn, hs, o, ho, hoo, hk⟩ := id hI
    rcases Nat.lt_or_ge l n with hl | hl
    case inr =>
      have e : l = n := by omega
      subst e
      by_cases z : d = 0
      · subst z
        refine ⟨0, σ, ?_, sealFr.rf σ, Or.inr ⟨rfl, τ, ?_, sealFrM.rf τ, fun k hk2 => hk k hk2 (fun j hj => by omega)⟩⟩
        · rw [J_Program_findWrongLine_7, hc, if_pos (nI_le (Nat.le_refl _) (by omega)), hd, if_pos nI_0]
        · rw [J_Mod_seal_13, ht, if_pos (nI_le (Nat.le_refl _) (by omega)), if_pos (by decide)]
          rfl
      · refine ⟨nI l + 1, σ, ?_, sealFr.rf σ, Or.inl ⟨pu_1 (by omega), τ, ?_, sealFrM.rf τ⟩⟩
        · rw [J_Program_findWrongLine_7, hc, if_pos (nI_le (Nat.le_refl _) (by omega)), hd, if_neg (nI_ne0 (by omega) (by omega))]
        · rw [J_Mod_seal_13, ht, if_pos (nI_le (Nat.le_refl _) (by omega)), if_neg (nI_nle (by omega) (by omega))]
    -- the line
    have hin : inB (nI l) 28 = true := pu_inB (by omega) (by decide)
    have hin30 : inB (nI l) 30 = true := pu_inB (by omega) (by decide)
    have hin48 : inB (48 * nI l) 1400 = true := by rw [pu_48]; exact pu_inB (by omega) (by decide)
    have hcl48 : (48 * nI l).toNatClampNeg = 48 * l := by rw [pu_48]; exact nI_clamp (by omega)
    have hcl : (nI l).toNatClampNeg = l := nI_clamp (by omega)
    have hng : ¬ nI n ≤ nI l := nI_ge hl (by omega)
    have hm0 : ∀ {X : Option (Int32 × St)}, msB N m (nI d) (nI l) (τ.2 1 (48 * l)) (sA τ 8 l (-1)) = X → J_Mod_seal_13 N (m + 1) (nI d) (nI l) τ = X := by
      intro X h
      rw [J_Mod_seal_13, ht, if_neg hng, if_pos hin48, hcl48, ax_let, if_pos hin30, hcl, ax_let]
      rw [msB, hcl] at h
      exact h
    have hsl := hs l hl
    have ht8 : (sA τ 8 l (-1)).2 8 = upd (τ.2 8) l (-1) := sA_self _ _ _ _
    have hop : ∀ j, j < d → o j ≠ l := fun j hj => by have := (ho j hj).1; omega
    -- a line that is no mark of a block
    have other : ∀ (c v : Int32), σ.2 12 l = c → τ.2 1 (48 * l) = v → (¬ c = 4 ∧ ¬ c = 5 ∧ ¬ c = 6 ∧ ¬ c = 7) → (¬ v = 10 ∧ ¬ v = 11 ∧ ¬ v = 12 ∧ ¬ v = 13) → sealRes n N (m + 1) l d σ τ := by
      intro c v e1 e2 ⟨a1, a2, a3, a4⟩ ⟨b1, b2, b3, b4⟩
      refine sealRes.step (d2 := d) (σ1 := σ) (τ1 := sA τ 8 l (-1)) hl hn hc ?_ (sealFr.rf σ) ?_ (sealFrM.a8 _ _ _) (ih (l + 1) d σ _ ?_ (by omega))
      · rw [J_Program_fits, if_pos hin, hcl, e1, if_neg a1, if_neg a2, if_neg a3, if_neg a4]
      · refine hm0 ?_
        rw [msB, e2, if_neg b1, if_neg b3, if_neg b2, if_neg b4, ax_let, nI_1]
      · refine ⟨hc, ht, hd, hd4, by omega, hn, hs, o, fun j hj => ⟨by have := (ho j hj).1; omega, (ho j hj).2⟩, hoo, fun k hkl hko => ?_⟩
        by_cases e : k = l
        · subst e
          exact ⟨fun z => by rw [e1] at z; rcases z with z | z | z <;> contradiction, fun z => by rw [e1] at z; contradiction⟩
        · have h9 := (hk k (by omega) hko).mono (Nat.le_succ l)
          unfold lineOK at h9 ⊢
          rw [ht8, pk_un e]
          exact h9
    -- a line that opens a block
    have opens : ∀ (c v : Int32), σ.2 12 l = c → τ.2 1 (48 * l) = v → (c = 4 ∨ c = 6) → (v = 10 ∨ v = 12) → sealRes n N (m + 1) l d σ τ := by
      intro c v e1 e2 hc4 hv
      have hfit : ∀ {X : Option (Int32 × St)}, ax_bind (J_Program_openBlock N (nI l) σ) (fun r1 σ1 => some (r1, σ1)) = X → J_Program_fits N (nI l) σ = X := by
        intro X h
        rw [J_Program_fits, if_pos hin, hcl, e1]
        rcases hc4 with z | z
        · subst z; rw [if_pos rfl]; exact h
        · subst z; rw [if_neg (by decide), if_neg (by decide), if_pos rfl]; exact h
      have hmod : ∀ {X : Option (Int32 × St)}, J_Mod_seal_50 N (fun l1 l2 σ => J_Mod_seal_13 N m l1 l2 σ) (nI d) (nI l) (sA τ 8 l (-1)) = X → J_Mod_seal_13 N (m + 1) (nI d) (nI l) τ = X := by
        intro X h
        refine hm0 ?_
        rw [msB, e2]
        rcases hv with z | z
        · subst z; rw [if_pos rfl]; exact h
        · subst z; rw [if_neg (by decide), if_pos rfl]; exact h
      rcases Nat.lt_or_ge d 4 with q | q
      · refine sealRes.step (d2 := d + 1) (σ1 := sF (sA σ 18 d (nI l)) 18 (nI (d + 1))) (τ1 := sA (sA τ 8 l (-1)) 15 d (nI l)) hl hn hc (hfit ?_) ((sealFr.a18 _ _ _).tr (sealFr.f _ _)) (hmod ?_) ((sealFrM.a8 _ _ _).tr (sealFrM.a15 _ _ _)) (ih (l + 1) (d + 1) _ _ ?_ (by omega))
        · rw [J_Program_openBlock, hd, if_neg (show ¬ nI d = 4 from pu_eqd (c := 4) (by omega) (by decide) (by omega)), if_pos (pu_inB q (by decide)), nI_clamp (by omega)]
          simp only [ax_let, ax_bind]
          rw [show (sA σ 18 d (nI l)).1 18 = nI d from hd, nI_1]
        · rw [J_Mod_seal_50, if_neg (show ¬ nI d = 4 from pu_eqd (c := 4) (by omega) (by decide) (by omega)), if_pos (pu_inB (by omega) (by decide)), nI_clamp (by omega)]
          simp only [ax_let]
          rw [nI_1, nI_1]
        · have a18 : ∀ j, (sF (sA σ 18 d (nI l)) 18 (nI (d + 1))).2 18 j = if j = d then nI l else σ.2 18 j := fun j => by
            show (sA σ 18 d (nI l)).2 18 j = _
            rw [sA_self]; rfl
          have a15 : ∀ j, (sA (sA τ 8 l (-1)) 15 d (nI l)).2 15 j = if j = d then nI l else τ.2 15 j := fun j => by
            rw [sA_self, sA_ne _ _ _ (by decide)]; rfl
          have a8 : (sA (sA τ 8 l (-1)) 15 d (nI l)).2 8 = upd (τ.2 8) l (-1) := by rw [sA_ne _ _ _ (by decide), sA_self]
          refine ⟨hc, ht, rfl, by omega, by omega, hn, hs, fun j => if j = d then l else o j, fun j hj => ?_, fun i j hij hj => ?_, fun k hkl hko => ?_⟩
          · rw [a18, a15]
            by_cases e : j = d
            · simp only [if_pos e]
              refine ⟨by omega, trivial, trivial, ?_⟩
              show σ.2 12 l = 4 ∨ _
              rcases hc4 with z | z
              · exact Or.inl (e1.trans z)
              · exact Or.inr (Or.inr (e1.trans z))
            · simp only [if_neg e]
              have := ho j (by omega)
              exact ⟨by omega, this.2⟩
          · by_cases e : j = d
            · simp only [if_pos e, if_neg (show i ≠ d by omega)]
              exact (ho i (by omega)).1
            · simp only [if_neg e, if_neg (show i ≠ d by omega)]
              exact hoo i j hij (by omega)
          · have hkl2 : k ≠ l := fun e => by
              have := hko d (by omega)
              simp only [if_pos] at this
              exact this e.symm
            have h9 := (hk k (by omega) (fun j hj e => hko j (by omega) (by simp only [if_neg (show j ≠ d by omega)]; exact e))).mono (Nat.le_succ l)
            unfold lineOK at h9 ⊢
            rw [a8, pk_un hkl2]
            exact h9
      · have ed : d = 4 := by omega
        subst ed
        refine sealRes.bad (σ1 := σ) (τ1 := sA τ 8 l (-1)) hl hn hc (hfit ?_) (sealFr.rf σ) (hmod ?_) (sealFrM.a8 _ _ _)
        · rw [J_Program_openBlock, hd, if_pos (by decide)]; rfl
        · rw [J_Mod_seal_50, if_pos (by decide)]
    -- the block on top
    have top : d ≠ 0 → ∃ p : Nat, p = o (d - 1) ∧ p < l ∧ σ.2 18 (d - 1) = nI p ∧ τ.2 15 (d - 1) = nI p ∧ ((σ.2 12 p = 4 ∧ τ.2 1 (48 * p) = 10) ∨ (σ.2 12 p = 5 ∧ τ.2 1 (48 * p) = 11) ∨ (σ.2 12 p = 6 ∧ τ.2 1 (48 * p) = 12)) ∧ (nI d - 1 = nI (d - 1)) ∧ (nI d + -1 = nI (d - 1)) ∧ ¬ nI d = 0 := by
      intro z
      obtain ⟨h1, h2, h3, h4⟩ := ho (d - 1) (by omega)
      have hsp := hs (o (d - 1)) (by omega)
      refine ⟨o (d - 1), rfl, h1, h2, h3, ?_, ?_, ?_, nI_ne0 (by omega) (by omega)⟩
      · rcases h4 with q | q | q <;> rw [q] at hsp ⊢ <;> rcases hsp with ⟨a, b⟩ | ⟨a, b⟩ | ⟨a, b⟩ | ⟨a, b⟩ | ⟨a, b⟩ | ⟨a, b⟩ | ⟨a, b⟩ | ⟨a, b⟩ | ⟨a, b⟩ | ⟨a, b⟩ <;> first | exact absurd b (by decide) | (exact Or.inl ⟨rfl, a⟩) | (exact Or.inr (Or.inl ⟨rfl, a⟩)) | (exact Or.inr (Or.inr ⟨rfl, a⟩))
      · obtain ⟨k, rfl⟩ : ∃ k, d = k + 1 := ⟨d - 1, by omega⟩
        exact nI_pred k
      · obtain ⟨k, rfl⟩ : ∃ k, d = k + 1 := ⟨d - 1, by omega⟩
        exact pk_m1 k
    rcases hsl with ⟨e2, e1⟩ | ⟨e2, e1⟩ | ⟨e2, e1⟩ | ⟨e2, e1⟩ | ⟨e2, e1⟩ | ⟨e2, e1⟩ | ⟨e2, e1⟩ | ⟨e2, e1⟩ | ⟨e2, e1⟩ | ⟨e2, e1⟩
    · exact other _ _ e1 e2 (by decide) (by decide)
    · exact opens _ _ e1 e2 (Or.inl rfl) (Or.inl rfl)
    · -- else
      have hfit : ∀ {X : Option (Int32 × St)}, ax_bind (J_Program_turnBlock N (nI l) σ) (fun r1 σ1 => some (r1, σ1)) = X → J_Program_fits N (nI l) σ = X := by
        intro X h
        rw [J_Program_fits, if_pos hin, hcl, e1, if_neg (by decide), if_pos rfl]
        exact h
      by_cases z : d = 0
      · subst z
        refine sealRes.bad (σ1 := σ) (τ1 := sA τ 8 l (-1)) hl hn hc (hfit ?_) (sealFr.rf σ) (hm0 ?_) (sealFrM.a8 _ _ _)
        · rw [J_Program_turnBlock, hd, if_pos nI_0]; rfl
        · rw [msB, e2, if_neg (by decide), if_neg (by decide), if_pos rfl, if_pos nI_0]
      obtain ⟨p, hpo, hpl, hp1, hp2, hp3, hdm, -, hd0⟩ := top z
      have hk4 : inB (nI d - 1) 4 = true := by rw [hdm]; exact pu_inB (by omega) (by decide)
      have hk6 : inB (nI d - 1) 6 = true := by rw [hdm]; exact pu_inB (by omega) (by decide)
      have hkc : (nI d - 1).toNatClampNeg = d - 1 := by rw [hdm]; exact nI_clamp (by omega)
      have hP28 : inB (nI p) 28 = true := pu_inB (by omega) (by decide)
      have hP30 : inB (nI p) 30 = true := pu_inB (by omega) (by decide)
      have hPc : (nI p).toNatClampNeg = p := nI_clamp (by omega)
      have hP48 : inB (48 * nI p) 1400 = true := by rw [pu_48]; exact pu_inB (by omega) (by decide)
      have hP48c : (48 * nI p).toNatClampNeg = 48 * p := by rw [pu_48]; exact nI_clamp (by omega)
      have g15 : (sA τ 8 l (-1)).2 15 (d - 1) = nI p := hp2
      have g1 : (sA τ 8 l (-1)).2 1 (48 * p) = τ.2 1 (48 * p) := rfl
      by_cases hif : σ.2 12 p = 4
      · have hif2 : τ.2 1 (48 * p) = 10 := by
          rcases hp3 with q | q | q
          · exact q.2
          · exact absurd (hif.symm.trans q.1) (by decide)
          · exact absurd (hif.symm.trans q.1) (by decide)
        refine sealRes.step (d2 := d) (σ1 := sA (sA σ 17 p (nI l + 1)) 18 (d - 1) (nI l)) (τ1 := sA (sA (sA τ 8 l (-1)) 8 p (nI l)) 15 (d - 1) (nI l)) hl hn hc (hfit ?_) ((sealFr.a17 _ _ _).tr (sealFr.a18 _ _ _)) (hm0 ?_) (((sealFrM.a8 _ _ _).tr (sealFrM.a8 _ _ _)).tr (sealFrM.a15 _ _ _)) (ih (l + 1) d _ _ ?_ (by omega))
        · rw [J_Program_turnBlock, hd, if_neg hd0, if_pos hk4, hkc, hp1, if_pos hP28, hPc, hif, if_pos rfl, if_pos hk4, if_pos hP28, ax_let, show (sA σ 17 p (nI l + 1)).1 18 = nI d from hd, if_pos hk4, hkc]
          rfl
        · rw [msB, e2, if_neg (by decide), if_neg (by decide), if_pos rfl, if_neg hd0, if_pos hk6, hkc, g15, if_pos hP48, hP48c, g1, hif2, if_pos rfl, if_pos hk6, if_pos hP30, hPc, ax_let, if_pos hk6, ax_let, ax_let, nI_1]
        · have a18 : ∀ j, (sA (sA σ 17 p (nI l + 1)) 18 (d - 1) (nI l)).2 18 j = if j = d - 1 then nI l else σ.2 18 j := fun j => by
            rw [sA_self, sA_ne _ _ _ (by decide)]; rfl
          have a17 : (sA (sA σ 17 p (nI l + 1)) 18 (d - 1) (nI l)).2 17 = upd (σ.2 17) p (nI l + 1) := by rw [sA_ne _ _ _ (by decide), sA_self]
          have a15 : ∀ j, (sA (sA (sA τ 8 l (-1)) 8 p (nI l)) 15 (d - 1) (nI l)).2 15 j = if j = d - 1 then nI l else τ.2 15 j := fun j => by
            rw [sA_self, sA_ne _ _ _ (by decide), sA_ne _ _ _ (by decide)]; rfl
          have a8 : (sA (sA (sA τ 8 l (-1)) 8 p (nI l)) 15 (d - 1) (nI l)).2 8 = upd (upd (τ.2 8) l (-1)) p (nI l) := by
            rw [sA_ne _ _ _ (by decide), sA_self, ht8]
          refine ⟨hc, ht, hd, hd4, by omega, hn, hs, fun j => if j = d - 1 then l else o j, fun j hj => ?_, fun i j hij hj => ?_, fun k hkl hko => ?_⟩
          · rw [a18, a15]
            by_cases e : j = d - 1
            · simp only [if_pos e]
              exact ⟨by omega, trivial, trivial, Or.inr (Or.inl e1)⟩
            · simp only [if_neg e]
              have := ho j (by omega)
              exact ⟨by omega, this.2⟩
          · by_cases e : j = d - 1
            · simp only [if_pos e, if_neg (show i ≠ d - 1 by omega)]
              exact (ho i (by omega)).1
            · simp only [if_neg e, if_neg (show i ≠ d - 1 by omega)]
              exact hoo i j hij hj
          · have hkl2 : k ≠ l := fun e => by
              have := hko (d - 1) (by omega)
              simp only [if_pos] at this
              exact this e.symm
            unfold lineOK
            rw [a8, a17]
            by_cases e : k = p
            · subst e
              refine ⟨fun _ => ⟨l, hpl, by omega, by rw [pk_us], by rw [pk_us, nI_1]⟩, fun q => ?_⟩
              have q : σ.2 12 k = 7 := q
              rw [hif] at q
              exact absurd q (by decide)
            · have h9 := (hk k (by omega) (fun j hj q => by
                by_cases e9 : j = d - 1
                · subst e9; exact e (q.symm.trans hpo.symm)
                · exact hko j hj (by simp only [if_neg e9]; exact q))).mono (Nat.le_succ l)
              unfold lineOK at h9
              rw [pk_un e, pk_un e, pk_un hkl2]
              exact h9
      · have hif2 : ¬ τ.2 1 (48 * p) = 10 := by
          rcases hp3 with q | q | q
          · exact absurd q.1 hif
          · rw [q.2]; decide
          · rw [q.2]; decide
        refine sealRes.bad (σ1 := σ) (τ1 := sA τ 8 l (-1)) hl hn hc (hfit ?_) (sealFr.rf σ) (hm0 ?_) (sealFrM.a8 _ _ _)
        · rw [J_Program_turnBlock, hd, if_neg hd0, if_pos hk4, hkc, hp1, if_pos hP28, hPc, if_neg hif]; rfl
        · rw [msB, e2, if_neg (by decide), if_neg (by decide), if_pos rfl, if_neg hd0, if_pos hk6, hkc, g15, if_pos hP48, hP48c, g1, if_neg hif2]
    · exact opens _ _ e1 e2 (Or.inr rfl) (Or.inr rfl)
    · -- end
      have hfit : ∀ {X : Option (Int32 × St)}, ax_bind (J_Program_closeBlock N (nI l) σ) (fun r1 σ1 => some (r1, σ1)) = X → J_Program_fits N (nI l) σ = X := by
        intro X h
        rw [J_Program_fits, if_pos hin, hcl, e1, if_neg (by decide), if_neg (by decide), if_neg (by decide), if_pos rfl]
        exact h
      by_cases z : d = 0
      · subst z
        refine sealRes.bad (σ1 := σ) (τ1 := sA τ 8 l (-1)) hl hn hc (hfit ?_) (sealFr.rf σ) (hm0 ?_) (sealFrM.a8 _ _ _)
        · rw [J_Program_closeBlock, hd, if_pos nI_0]; rfl
        · rw [msB, e2, if_neg (by decide), if_neg (by decide), if_neg (by decide), if_pos rfl, if_pos nI_0]
      obtain ⟨p, hpo, hpl, hp1, hp2, hp3, hdm, hdm2, hd0⟩ := top z
      have hk4 : inB (nI (d - 1)) 4 = true := pu_inB (by omega) (by decide)
      have hk6 : inB (nI (d - 1)) 6 = true := pu_inB (by omega) (by decide)
      have hkc : (nI (d - 1)).toNatClampNeg = d - 1 := nI_clamp (by omega)
      have hP28 : inB (nI p) 28 = true := pu_inB (by omega) (by decide)
      have hP30 : inB (nI p) 30 = true := pu_inB (by omega) (by decide)
      have hPc : (nI p).toNatClampNeg = p := nI_clamp (by omega)
      have hP48 : inB (48 * nI p) 1400 = true := by rw [pu_48]; exact pu_inB (by omega) (by decide)
      have hP48c : (48 * nI p).toNatClampNeg = 48 * p := by rw [pu_48]; exact nI_clamp (by omega)
      have g15 : (sA τ 8 l (-1)).2 15 (d - 1) = nI p := hp2
      have g15' : (sA (sA τ 8 l (-1)) 8 p (nI l)).2 15 (d - 1) = nI p := hp2
      have g1 : (sA (sA τ 8 l (-1)) 8 p (nI l)).2 1 (48 * p) = τ.2 1 (48 * p) := rfl
      have hplne : p ≠ l := by omega
      -- the invariant behind it, whatever stands at l
      have inv : ∀ (jl : Int32) (ol : Int32) (σ1 τ1 : St), σ1.1 16 = nI n → σ1.1 18 = nI (d - 1) → σ1.2 12 = σ.2 12 → σ1.2 18 = σ.2 18 → σ1.2 17 = upd (upd (σ.2 17) p (nI l + 1)) l jl → τ1.1 1 = nI n → τ1.2 1 = τ.2 1 → τ1.2 15 = τ.2 15 → τ1.2 8 = upd (upd (τ.2 8) p (nI l)) l ol → ((ol = -1 ∧ jl = nI (l + 1)) ∨ (σ.2 12 p = 6 ∧ ol = nI p ∧ jl = nI p)) → sealInv n (l + 1) (d - 1) σ1 τ1 := by
        intro jl ol σ1 τ1 q1 q2 q3 q4 q5 q6 q7 q8 q9 q10
        refine ⟨q1, q6, q2, by omega, by omega, hn, fun k hk2 => by rw [q3, q7]; exact hs k hk2, o, fun j hj => ?_, fun i j hij hj => hoo i j hij (by omega), fun k hkl hko => ?_⟩
        · rw [q3, q4, q8]
          have := ho j (by omega)
          exact ⟨by omega, this.2⟩
        · unfold lineOK
          rw [q3, q5, q9]
          by_cases e : k = l
          · subst e
            refine ⟨fun q => ?_, fun _ => ?_⟩
            · rw [e1] at q; rcases q with q | q | q <;> exact absurd q (by decide)
            · rw [pk_us, pk_us]
              rcases q10 with ⟨u1, u2⟩ | ⟨u1, u2, u3⟩
              · exact Or.inl ⟨u1, u2⟩
              · exact Or.inr ⟨p, hpl, u1, u2, u3⟩
          · rw [pk_un e, pk_un e]
            by_cases e9 : k = p
            · subst e9
              refine ⟨fun _ => ⟨l, hpl, by omega, by rw [pk_us], by rw [pk_us, nI_1]⟩, fun q => ?_⟩
              rcases hp3 with u | u | u <;> (rw [u.1] at q; exact absurd q (by decide))
            · rw [pk_un e9, pk_un e9]
              have h9 := (hk k (by omega) (fun j hj q => by
                by_cases e8 : j = d - 1
                · subst e8; exact e9 (q.symm.trans hpo.symm)
                · exact hko j (by omega) q)).mono (Nat.le_succ l)
              exact h9
      have upc : ∀ (f : Nat → Int32) (a b : Nat) (u v : Int32), a ≠ b → upd (upd f a u) b v = upd (upd f b v) a u := by
        intro f a b u v hab
        funext j
        unfold upd
        by_cases h1 : j = a
        · have h2 : ¬ j = b := fun q => hab (h1.symm.trans q)
          simp only [if_pos h1, if_neg h2]
        · by_cases h2 : j = b
          · simp only [if_pos h2, if_neg h1]
          · simp only [if_neg h1, if_neg h2]
      have upi : ∀ (f : Nat → Int32) (a : Nat) (u : Int32), f a = u → upd f a u = f := by
        intro f a u h
        funext j
        unfold upd
        by_cases h1 : j = a
        · rw [if_pos h1, h1, h]
        · rw [if_neg h1]
      by_cases hif : σ.2 12 p = 6
      · have hif2 : τ.2 1 (48 * p) = 12 := by
          rcases hp3 with q | q | q
          · exact absurd (hif.symm.trans q.1) (by decide)
          · exact absurd (hif.symm.trans q.1) (by decide)
          · exact q.2
        refine sealRes.step (d2 := d - 1) (σ1 := sA (sA (sF σ 18 (nI (d - 1))) 17 p (nI l + 1)) 17 l (nI p)) (τ1 := sA (sA (sA τ 8 l (-1)) 8 p (nI l)) 8 l (nI p)) hl hn hc (hfit ?_) (((sealFr.f _ _).tr (sealFr.a17 _ _ _)).tr (sealFr.a17 _ _ _)) (hm0 ?_) (((sealFrM.a8 _ _ _).tr (sealFrM.a8 _ _ _)).tr (sealFrM.a8 _ _ _)) (ih (l + 1) (d - 1) _ _ (inv (nI p) (nI p) _ _ hc rfl rfl rfl ?_ ht rfl rfl ?_ (Or.inr ⟨hif, rfl, rfl⟩)) (by omega))
        · rw [J_Program_closeBlock, hd, if_neg hd0, hdm, ax_let, show (sF σ 18 (nI (d - 1))).1 18 = nI (d - 1) from rfl, if_pos hk4, hkc, show (sF σ 18 (nI (d - 1))).2 18 (d - 1) = nI p from hp1, ax_let, if_pos hP28, hPc, ax_let, if_pos hP28, show (sA (sF σ 18 (nI (d - 1))) 17 p (nI l + 1)).2 12 p = 6 from hif, if_pos rfl, if_pos hin, hcl]
          rfl
        · rw [msB, e2, if_neg (by decide), if_neg (by decide), if_neg (by decide), if_pos rfl, if_neg hd0, hdm2, ax_let, if_pos hk6, hkc, g15, if_pos hP30, hPc, ax_let, if_pos hk6, g15', if_pos hP48, hP48c, g1, hif2, if_pos rfl, if_pos hk6, if_pos hin30, hcl, ax_let, ax_let, nI_1]
        · rw [sA_self, sA_self]; rfl
        · rw [sA_self, sA_self, ht8, upc _ l p _ _ (fun q => hplne q.symm)]
          funext j
          unfold upd
          by_cases h1 : j = l
          · rw [if_pos h1, if_pos h1]
          · rw [if_neg h1, if_neg h1, if_neg h1]
      · have hif2 : ¬ τ.2 1 (48 * p) = 12 := by
          rcases hp3 with q | q | q
          · rw [q.2]; decide
          · rw [q.2]; decide
          · exact absurd q.1 hif
        refine sealRes.step (d2 := d - 1) (σ1 := sA (sA (sF σ 18 (nI (d - 1))) 17 p (nI l + 1)) 17 l (nI l + 1)) (τ1 := sA (sA τ 8 l (-1)) 8 p (nI l)) hl hn hc (hfit ?_) (((sealFr.f _ _).tr (sealFr.a17 _ _ _)).tr (sealFr.a17 _ _ _)) (hm0 ?_) ((sealFrM.a8 _ _ _).tr (sealFrM.a8 _ _ _)) (ih (l + 1) (d - 1) _ _ (inv (nI l + 1) (-1) _ _ hc rfl rfl rfl ?_ ht rfl rfl ?_ (Or.inl ⟨rfl, nI_1 l⟩)) (by omega))
        · rw [J_Program_closeBlock, hd, if_neg hd0, hdm, ax_let, show (sF σ 18 (nI (d - 1))).1 18 = nI (d - 1) from rfl, if_pos hk4, hkc, show (sF σ 18 (nI (d - 1))).2 18 (d - 1) = nI p from hp1, ax_let, if_pos hP28, hPc, ax_let, if_pos hP28, if_neg (show ¬ (sA (sF σ 18 (nI (d - 1))) 17 p (nI l + 1)).2 12 p = 6 from hif), if_pos hin, hcl]
          rfl
        · rw [msB, e2, if_neg (by decide), if_neg (by decide), if_neg (by decide), if_pos rfl, if_neg hd0, hdm2, ax_let, if_pos hk6, hkc, g15, if_pos hP30, hPc, ax_let, if_pos hk6, g15', if_pos hP48, hP48c, g1, if_neg hif2, ax_let, nI_1]
        · rw [sA_self, sA_self]; rfl
        · rw [sA_self, ht8, upc _ l p _ _ (fun q => hplne q.symm)]
    · exact other _ _ e1 e2 (by decide) (by decide)
    · exact other _ _ e1 e2 (by decide) (by decide)
    · exact other _ _ e1 e2 (by decide) (by decide)
    · exact other _ _ e1 e2 (by decide) (by decide)
    · exact other _ _ e1 e2 (by decide) (by decide)
/-- seal: answers alike, and what stands behind it -/
theorem pu_seal {N n : Nat} {σ τ : St} (hN : 40 ≤ N) (hn : n ≤ 28) (h1 : σ.1 16 = nI n) (h2 : τ.1 1 = nI n) (hs : ∀ k, k < n → sRel (σ.2 12 k) (τ.2 1 (48 * k))) (h0 : σ.1 17 = 0) (h3 : τ.1 4 = 0) : ∃ (r : Int32) (σ2 τ2 : St), J_Con_seal N σ = some (r, σ2) ∧ J_Mod_seal N τ = some (r, τ2) ∧ (∀ k, k ≠ 17 → k ≠ 18 → σ2.1 k = σ.1 k) ∧ (∀ k, k ≠ 17 → k ≠ 18 → σ2.2 k = σ.2 k) ∧ (∀ k, k ≠ 4 → τ2.1 k = τ.1 k) ∧ (∀ k, k ≠ 8 → k ≠ 15 → τ2.2 k = τ.2 k) ∧
    ((σ2.1 17 = 0 ∧ τ2.1 4 = 0) ∨ (σ2.1 17 = 1 ∧ τ2.1 4 = 1 ∧ ∀ k, k < n → lineOK (σ2.2 12) (σ2.2 17) (τ2.2 8) k n)) := by
  have hI : sealInv n 0 0 (sF σ 18 0) τ := ⟨h1, h2, nI_0.symm, by omega, by omega, hn, hs, fun _ => 0, fun j hj => by omega, fun i j _ hj => by omega, fun k hk => by omega⟩
  obtain ⟨r, σ2, g1, g2, g3⟩ := seal_loop n N N 0 0 _ τ hI (by omega)
  have gc : J_Program_findWrongLine N σ = some (r, σ2) := by
    rw [J_Program_findWrongLine, ax_let]
    exact g1
  have fr := (sealFr.f σ 0).tr g2
  rcases g3 with ⟨z, τ2, g4, g5⟩ | ⟨z, τ2, g4, g5, g6⟩
  · refine ⟨r, sF σ2 17 0, τ2, ?_, ?_, fun k a b => ?_, fun k a b => ?_, fun k _ => g5.1 k, g5.2, Or.inl ⟨rfl, (g5.1 4).trans h3⟩⟩
    · rw [J_Con_seal, if_pos h0, gc]
      simp only [ax_bind]
      rw [if_neg z]
      rfl
    · rw [J_Mod_seal, if_pos h3]
      exact g4
    · exact (if_neg a).trans (fr.1 k b)
    · exact fr.2 k a b
  · subst z
    refine ⟨0, sF σ2 17 1, sF τ2 4 1, ?_, ?_, fun k a b => ?_, fun k a b => ?_, fun k a => ?_, g5.2, Or.inr ⟨rfl, rfl, g6⟩⟩
    · rw [J_Con_seal, if_pos h0, gc]
      simp only [ax_bind]
      rw [if_pos trivial]
      rfl
    · rw [J_Mod_seal, if_pos h3]
      exact g4
    · exact (if_neg a).trans (fr.1 k b)
    · exact fr.2 k a b
    · exact (if_neg a).trans (g5.1 k)
