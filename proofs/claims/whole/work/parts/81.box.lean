/-! PURE ROWS 32: boxes, on both sides. -/
def btw (a b x : Int32) : Bool := (decide (a ≤ x) && decide (x ≤ b)) || (decide (b ≤ x) && decide (x ≤ a))
theorem btw_t {a b x : Int32} : btw a b x = true ↔ (a.toInt ≤ x.toInt ∧ x.toInt ≤ b.toInt) ∨ (b.toInt ≤ x.toInt ∧ x.toInt ≤ a.toInt) := by
  unfold btw
  rw [Bool.or_eq_true, Bool.and_eq_true, Bool.and_eq_true, decide_eq_true_iff, decide_eq_true_iff, decide_eq_true_iff, decide_eq_true_iff, Int32.le_iff_toInt_le, Int32.le_iff_toInt_le, Int32.le_iff_toInt_le, Int32.le_iff_toInt_le]
theorem btw_if {α : Type} {a b x : Int32} {P Q : α} : (if x < a then (if x < b then Q else if a < x then Q else P) else if x ≤ b then P else (if x < b then Q else if a < x then Q else P)) = if btw a b x = true then P else Q := by
  have e1 : x < a ↔ x.toInt < a.toInt := Int32.lt_iff_toInt_lt
  have e2 : x < b ↔ x.toInt < b.toInt := Int32.lt_iff_toInt_lt
  have e3 : a < x ↔ a.toInt < x.toInt := Int32.lt_iff_toInt_lt
  have e4 : x ≤ b ↔ x.toInt ≤ b.toInt := Int32.le_iff_toInt_le
  by_cases h : btw a b x = true
  · have h1 := btw_t.mp h
    rw [if_pos h]
    by_cases q1 : x < a
    · have q1' := e1.mp q1
      rw [if_pos q1, if_neg (fun w => by have := e2.mp w; omega), if_neg (fun w => by have := e3.mp w; omega)]
    · have q1' : ¬ x.toInt < a.toInt := fun w => q1 (e1.mpr w)
      rw [if_neg q1]
      by_cases q2 : x ≤ b
      · rw [if_pos q2]
      · have q2' : ¬ x.toInt ≤ b.toInt := fun w => q2 (e4.mpr w)
        rw [if_neg q2, if_neg (fun w => by have := e2.mp w; omega), if_neg (fun w => by have := e3.mp w; omega)]
  · have h1 : ¬ ((a.toInt ≤ x.toInt ∧ x.toInt ≤ b.toInt) ∨ (b.toInt ≤ x.toInt ∧ x.toInt ≤ a.toInt)) := fun w => h (btw_t.mpr w)
    rw [if_neg h]
    by_cases q1 : x < a
    · have q1' := e1.mp q1
      rw [if_pos q1, if_pos (e2.mpr (by omega))]
    · have q1' : ¬ x.toInt < a.toInt := fun w => q1 (e1.mpr w)
      rw [if_neg q1, if_neg (fun w => by have := e4.mp w; omega)]
      by_cases q2 : x < b
      · rw [if_pos q2]
      · rw [if_neg q2, if_pos (e3.mpr (by have : ¬ x.toInt < b.toInt := fun w => q2 (e2.mpr w); omega))]
/-- one dot of the reference's box -/
def bxS (x0 y0 x1 y1 c : Int32) (i j : Nat) (τ : St) : St := if btw x0 x1 (nI i) = true ∧ btw y0 y1 (nI j) = true then sA τ 10 (16 * j + i) c else τ
theorem pm_box1 {N f i j : Nat} {K3 : Int32 → Int32 → Int32 → Int32 → Int32 → Int32 → St → Option St} {x0 y0 x1 y1 c : Int32} {τ : St} (hi : i < 16) (hj : j < 16) : J_Mod_box_13 N K3 (f + 1) x0 y0 x1 y1 c (nI i) (nI j) τ = J_Mod_box_13 N K3 f x0 y0 x1 y1 c (nI i) (nI (j + 1)) (bxS x0 y0 x1 y1 c i j τ) := by
  have p0 : J_Mod_paint N (nI i) (nI j) c 0 τ = some τ := by rw [J_Mod_paint, if_pos rfl]
  have p1 : J_Mod_paint N (nI i) (nI j) c 1 τ = some (sA τ 10 (16 * j + i) c) := by
    have q : insF (nI i) (nI j) = true := by
      have : ∀ i, i < 16 → ∀ j, j < 16 → insF (nI i) (nI j) = true := by decide +kernel
      exact this i hi j hj
    rw [J_Mod_paint, if_neg (show ¬ (1 : Int32) = 0 by decide), pu_seen, if_pos q, ax_bs, if_neg (show ¬ (1 : Int32) = 0 by decide), pu_ix2 hi hj, if_pos (pu_inB (by omega) (by decide)), nI_clamp (by omega), ax_let]
  generalize hK : (fun l1 l2 l3 l4 l5 l6 l7 σ => J_Mod_box_13 N K3 f l1 l2 l3 l4 l5 l6 l7 σ) = K
  have eK : ∀ s, K x0 y0 x1 y1 c (nI i) (nI (j + 1)) s = J_Mod_box_13 N K3 f x0 y0 x1 y1 c (nI i) (nI (j + 1)) s := fun s => by rw [← hK]
  have b77 : ∀ t : Int32, J_Mod_box_77 N K3 K x0 y0 x1 y1 c (nI i) (nI j) t τ = if t = 0 then K x0 y0 x1 y1 c (nI i) (nI (j + 1)) τ else K x0 y0 x1 y1 c (nI i) (nI (j + 1)) (sA τ 10 (16 * j + i) c) := by
    intro t
    rw [J_Mod_box_77, J_Mod_box_82, p0, p1, ax_bsV, ax_bsV, nI_1, ax_let, if_neg (show ¬ (1 : Int32) = 0 by decide), ax_let]
  have b81 : ∀ t : Int32, J_Mod_box_81 N K3 K x0 y0 x1 y1 c (nI i) (nI j) t τ = K x0 y0 x1 y1 c (nI i) (nI (j + 1)) τ := by
    intro t
    rw [J_Mod_box_81, J_Mod_box_82, p0, ax_bsV, nI_1, ax_let, if_pos (show (0 : Int32) = 0 from rfl)]
    by_cases q : t = 0
    · rw [if_pos q]
    · rw [if_neg q]
  have b49 : ∀ t : Int32, J_Mod_box_49 N K3 K t x0 y0 x1 y1 c (nI i) (nI j) τ = if btw y0 y1 (nI j) = true then J_Mod_box_77 N K3 K x0 y0 x1 y1 c (nI i) (nI j) t τ else J_Mod_box_81 N K3 K x0 y0 x1 y1 c (nI i) (nI j) t τ := by
    intro t
    rw [J_Mod_box_49, J_Mod_box_64, btw_if]
  have st : J_Mod_box_13 N K3 (f + 1) x0 y0 x1 y1 c (nI i) (nI j) τ = if btw x0 x1 (nI i) = true then J_Mod_box_44 N K3 K x0 y0 x1 y1 c (nI i) (nI j) τ else J_Mod_box_48 N K3 K x0 y0 x1 y1 c (nI i) (nI j) τ := by
    rw [J_Mod_box_13, hK, if_neg (show ¬ 16 ≤ nI j from nI_ge (b := 16) hj (by decide)), J_Mod_box_32, btw_if]
  rw [st, J_Mod_box_44, J_Mod_box_48, b49, b49, b77, b77, b81, b81, if_neg (show ¬ (1 : Int32) = 0 by decide), if_pos (show (0 : Int32) = 0 from rfl)]
  unfold bxS
  by_cases q1 : btw x0 x1 (nI i) = true
  · rw [if_pos q1]
    by_cases q2 : btw y0 y1 (nI j) = true
    · rw [if_pos q2, if_pos ⟨q1, q2⟩, eK]
    · rw [if_neg q2, if_neg (fun w => q2 w.2), eK]
  · rw [if_neg q1, if_neg (show ¬ (btw x0 x1 (nI i) = true ∧ btw y0 y1 (nI j) = true) from fun w => q1 w.1)]
    by_cases q2 : btw y0 y1 (nI j) = true
    · rw [if_pos q2, eK]
    · rw [if_neg q2, eK]
theorem bxS_fr (x0 y0 x1 y1 c : Int32) (i j : Nat) (τ : St) : dFr 10 τ (bxS x0 y0 x1 y1 c i j τ) := by
  unfold bxS
  split
  · exact dFr.s _ _ _ _
  · exact dFr.rf _ _
theorem bxS_at (x0 y0 x1 y1 c : Int32) (i j : Nat) (τ : St) (k : Nat) : (bxS x0 y0 x1 y1 c i j τ).2 10 k = if k = 16 * j + i ∧ btw x0 x1 (nI i) = true ∧ btw y0 y1 (nI j) = true then c else τ.2 10 k := by
  unfold bxS
  by_cases q : btw x0 x1 (nI i) = true ∧ btw y0 y1 (nI j) = true
  · rw [if_pos q, sA_self]
    by_cases z : k = 16 * j + i
    · rw [if_pos ⟨z, q⟩, z, pk_us]
    · rw [if_neg (fun w => z w.1), pk_un z]
  · rw [if_neg q, if_neg (fun w => q w.2)]
theorem pm_box2 {N i : Nat} {K3 : Int32 → Int32 → Int32 → Int32 → Int32 → Int32 → St → Option St} {x0 y0 x1 y1 c : Int32} (hi : i < 16) : ∀ (d j : Nat) (τ : St) (f : Nat), j + d = 16 → d < f → ∃ τ2 : St, J_Mod_box_13 N K3 f x0 y0 x1 y1 c (nI i) (nI j) τ = K3 x0 y0 x1 y1 c (nI (i + 1)) τ2 ∧ dFr 10 τ τ2 ∧ ∀ k, k < 256 → τ2.2 10 k = if (k % 16 = i ∧ j ≤ k / 16) ∧ btw x0 x1 (nI (k % 16)) = true ∧ btw y0 y1 (nI (k / 16)) = true then c else τ.2 10 k := by
  intro d
  induction d with
  | zero =>
    intro j τ f hj hf
    obtain ⟨f, rfl⟩ : ∃ k, f = k + 1 := ⟨f - 1, by omega⟩
    refine ⟨τ, ?_, dFr.rf _ _, fun k hk => ?_⟩
    · rw [J_Mod_box_13, if_pos (show 16 ≤ nI j from nI_le (a := 16) (by omega) (by omega)), nI_1, ax_let]
    · rw [if_neg (fun w => by omega)]
  | succ d ih =>
    intro j τ f hj hf
    obtain ⟨f, rfl⟩ : ∃ k, f = k + 1 := ⟨f - 1, by omega⟩
    obtain ⟨τ2, g1, g2, g3⟩ := ih (j + 1) (bxS x0 y0 x1 y1 c i j τ) f (by omega) (by omega)
    refine ⟨τ2, ?_, (bxS_fr _ _ _ _ _ _ _ _).tr g2, fun k hk => ?_⟩
    · rw [pm_box1 hi (by omega)]
      exact g1
    · rw [g3 k hk, bxS_at]
      by_cases z : k = 16 * j + i
      · have e1 : k % 16 = i := by omega
        have e2 : k / 16 = j := by omega
        rw [if_neg (fun w => by omega), e1, e2]
        by_cases q : btw x0 x1 (nI i) = true ∧ btw y0 y1 (nI j) = true
        · rw [if_pos ⟨z, q⟩, if_pos ⟨⟨rfl, Nat.le_refl _⟩, q⟩]
        · rw [if_neg (fun w => q w.2), if_neg (fun w => q w.2)]
      · rw [if_neg (c := k = 16 * j + i ∧ _) (fun w => z w.1)]
        by_cases q : (k % 16 = i ∧ j + 1 ≤ k / 16) ∧ btw x0 x1 (nI (k % 16)) = true ∧ btw y0 y1 (nI (k / 16)) = true
        · rw [if_pos q, if_pos ⟨⟨q.1.1, by omega⟩, q.2⟩]
        · rw [if_neg q, if_neg (fun w => q ⟨⟨w.1.1, by omega⟩, w.2⟩)]
theorem pm_box3 {N : Nat} {x0 y0 x1 y1 c : Int32} (hN1 : 100 ≤ N) : ∀ (d i : Nat) (τ : St) (f : Nat), i + d = 16 → d < f → ∃ τ2 : St, J_Mod_box_3 N f x0 y0 x1 y1 c (nI i) τ = some τ2 ∧ dFr 10 τ τ2 ∧ ∀ k, k < 256 → τ2.2 10 k = if i ≤ k % 16 ∧ btw x0 x1 (nI (k % 16)) = true ∧ btw y0 y1 (nI (k / 16)) = true then c else τ.2 10 k := by
  intro d
  induction d with
  | zero =>
    intro i τ f hi hf
    obtain ⟨f, rfl⟩ : ∃ k, f = k + 1 := ⟨f - 1, by omega⟩
    refine ⟨τ, ?_, dFr.rf _ _, fun k hk => ?_⟩
    · rw [J_Mod_box_3, if_pos (show 16 ≤ nI i from nI_le (a := 16) (by omega) (by omega))]
    · rw [if_neg (fun w => by omega)]
  | succ d ih =>
    intro i τ f hi hf
    obtain ⟨f, rfl⟩ : ∃ k, f = k + 1 := ⟨f - 1, by omega⟩
    obtain ⟨τ2, g1, g2, g3⟩ := pm_box2 (N := N) (i := i) (K3 := fun l1 l2 l3 l4 l5 l6 σ => J_Mod_box_3 N f l1 l2 l3 l4 l5 l6 σ) (x0 := x0) (y0 := y0) (x1 := x1) (y1 := y1) (c := c) (by omega) 16 0 τ N (by omega) (by omega)
    obtain ⟨τ3, m1, m2, m3⟩ := ih (i + 1) τ2 f (by omega) (by omega)
    refine ⟨τ3, ?_, g2.tr m2, fun k hk => ?_⟩
    · rw [J_Mod_box_3, if_neg (show ¬ 16 ≤ nI i from nI_ge (b := 16) (by omega) (by decide))]
      exact g1.trans m1
    · rw [m3 k hk, g3 k hk]
      by_cases q : btw x0 x1 (nI (k % 16)) = true ∧ btw y0 y1 (nI (k / 16)) = true
      · by_cases z : k % 16 = i
        · rw [if_neg (fun w => by omega), if_pos ⟨⟨z, Nat.zero_le _⟩, q⟩, if_pos ⟨by omega, q⟩]
        · by_cases z2 : i + 1 ≤ k % 16
          · rw [if_pos ⟨z2, q⟩, if_pos ⟨by omega, q⟩]
          · rw [if_neg (fun w => z2 w.1), if_neg (fun w => z w.1.1), if_neg (fun w => by omega)]
      · rw [if_neg (fun w => q w.2), if_neg (fun w => q w.2), if_neg (fun w => q w.2)]
theorem pm_box {N : Nat} {x0 y0 x1 y1 c : Int32} {τ : St} (hN1 : 100 ≤ N) : ∃ τ2 : St, J_Mod_box N x0 y0 x1 y1 c τ = some τ2 ∧ dFr 10 τ τ2 ∧ ∀ k, k < 256 → τ2.2 10 k = if btw x0 x1 (nI (k % 16)) = true ∧ btw y0 y1 (nI (k / 16)) = true then c else τ.2 10 k := by
  obtain ⟨τ2, g1, g2, g3⟩ := pm_box3 (N := N) (x0 := x0) (y0 := y0) (x1 := x1) (y1 := y1) (c := c) hN1 16 0 τ N (by omega) (by omega)
  refine ⟨τ2, by rw [J_Mod_box]; exact g1, g2, fun k hk => ?_⟩
  rw [g3 k hk]
  by_cases q : btw x0 x1 (nI (k % 16)) = true ∧ btw y0 y1 (nI (k / 16)) = true
  · rw [if_pos q, if_pos ⟨Nat.zero_le _, q⟩]
  · rw [if_neg q, if_neg (fun w => q w.2)]
def mnI (a b : Int32) : Int32 := if b < a then b else a
def mxI (a b : Int32) : Int32 := if a < b then b else a
theorem pu_mn {N : Nat} {a b : Int32} {σ : St} : J_CMath_min N a b σ = some (mnI a b, σ) := by
  rw [J_CMath_min, mnI]
  by_cases q : b < a
  · rw [if_pos q, if_pos q]
  · rw [if_neg q, if_neg q]
theorem pu_mx {N : Nat} {a b : Int32} {σ : St} : J_CMath_max N a b σ = some (mxI a b, σ) := by
  rw [J_CMath_max, mxI]
  by_cases q : a < b
  · rw [if_pos q, if_pos q]
  · rw [if_neg q, if_neg q]
theorem mnI_t (a b : Int32) : (mnI a b).toInt = if b.toInt < a.toInt then b.toInt else a.toInt := by
  unfold mnI
  by_cases q : b < a
  · rw [if_pos q, if_pos (by rw [Int32.lt_iff_toInt_lt] at q; exact q)]
  · rw [if_neg q, if_neg (fun w => q (by rw [Int32.lt_iff_toInt_lt]; exact w))]
theorem mxI_t (a b : Int32) : (mxI a b).toInt = if a.toInt < b.toInt then b.toInt else a.toInt := by
  unfold mxI
  by_cases q : a < b
  · rw [if_pos q, if_pos (by rw [Int32.lt_iff_toInt_lt] at q; exact q)]
  · rw [if_neg q, if_neg (fun w => q (by rw [Int32.lt_iff_toInt_lt]; exact w))]
theorem pc_dot {N i j : Nat} {c : Int32} {σ : St} (hi : i < 16) (hj : j < 16) : J_Screen_paint N (nI i) (nI j) c σ = some (sA σ 22 (16 * j + i) c) := by
  have q : insF (nI i) (nI j) = true := by
    have : ∀ i, i < 16 → ∀ j, j < 16 → insF (nI i) (nI j) = true := by decide +kernel
    exact this i hi j hj
  have hin : J_Screen_isInside N (nI i) (nI j) σ = some (if insF (nI i) (nI j) = true then 1 else 0, σ) := pu_seen (N := N) (τ := σ)
  rw [J_Screen_paint, hin, if_pos q, ax_bs, if_neg (show ¬ (1 : Int32) = 0 by decide), pu_ix1 hi hj, if_pos (pu_inB (by omega) (by decide)), nI_clamp (by omega), ax_let]
theorem pc_box2 {N j : Nat} {K37 : Int32 → Int32 → Int32 → Int32 → Int32 → Int32 → St → Option St} {x0 x1 c hx hy : Int32} (hj : j < 16) (hh : hx.toInt ≤ 15) : ∀ (d i : Nat) (σ : St) (f : Nat), hx.toInt + 1 - (i : Int) ≤ (d : Int) → i < 2 ^ 20 → d < f → ∃ σ2 : St, J_Screen_paintBox_55 N K37 f x0 x1 c hx hy (nI j) (nI i) σ = K37 x0 x1 c hx hy (nI (j + 1)) σ2 ∧ dFr 22 σ σ2 ∧ ∀ k, k < 256 → σ2.2 22 k = if k / 16 = j ∧ i ≤ k % 16 ∧ ((k % 16 : Nat) : Int) ≤ hx.toInt then c else σ.2 22 k := by
  have hlt : ∀ i : Nat, i < 2 ^ 20 → (hx < nI i ↔ hx.toInt < (i : Int)) := fun i hi => by rw [Int32.lt_iff_toInt_lt, nI_toInt (by omega)]
  have stop : ∀ (i : Nat) (σ : St) (f : Nat), hx.toInt < (i : Int) → i < 2 ^ 20 → ∃ σ2 : St, J_Screen_paintBox_55 N K37 (f + 1) x0 x1 c hx hy (nI j) (nI i) σ = K37 x0 x1 c hx hy (nI (j + 1)) σ2 ∧ dFr 22 σ σ2 ∧ ∀ k, k < 256 → σ2.2 22 k = if k / 16 = j ∧ i ≤ k % 16 ∧ ((k % 16 : Nat) : Int) ≤ hx.toInt then c else σ.2 22 k := by
    intro i σ f h1 h2
    refine ⟨σ, ?_, dFr.rf _ _, fun k hk => ?_⟩
    · rw [J_Screen_paintBox_55, if_pos ((hlt i h2).mpr h1), nI_1, ax_let]
    · rw [if_neg (fun w => by omega)]
  intro d
  induction d with
  | zero =>
    intro i σ f hd hi hf
    obtain ⟨f, rfl⟩ : ∃ k, f = k + 1 := ⟨f - 1, by omega⟩
    exact stop i σ f (by omega) hi
  | succ d ih =>
    intro i σ f hd hi hf
    obtain ⟨f, rfl⟩ : ∃ k, f = k + 1 := ⟨f - 1, by omega⟩
    by_cases q : hx.toInt < (i : Int)
    · exact stop i σ f q hi
    · obtain ⟨σ2, g1, g2, g3⟩ := ih (i + 1) (sA σ 22 (16 * j + i) c) f (by omega) (by omega) (by omega)
      refine ⟨σ2, ?_, (dFr.s _ _ _ _).tr g2, fun k hk => ?_⟩
      · rw [J_Screen_paintBox_55, if_neg (fun w => q ((hlt i hi).mp w)), pc_dot (by omega) hj, ax_bsV, nI_1, ax_let]
        exact g1
      · rw [g3 k hk, sA_self]
        by_cases z : k = 16 * j + i
        · rw [if_neg (fun w => by omega), z, pk_us, if_pos (by omega)]
        · rw [pk_un z]
          by_cases y : k / 16 = j ∧ i + 1 ≤ k % 16 ∧ ((k % 16 : Nat) : Int) ≤ hx.toInt
          · rw [if_pos y, if_pos (by omega)]
          · rw [if_neg y, if_neg (fun w => y (by omega))]
theorem pc_box3 {N lx : Nat} {x0 x1 c hx hy : Int32} (hN1 : 100 ≤ N) (hh : hx.toInt ≤ 15) (hv : hy.toInt ≤ 15) (hlx : lx < 2 ^ 20) (he : mxI (mnI x0 x1) 0 = nI lx) : ∀ (d j : Nat) (σ : St) (f : Nat), hy.toInt + 1 - (j : Int) ≤ (d : Int) → j < 2 ^ 20 → d < f → ∃ σ2 : St, J_Screen_paintBox_37 N f x0 x1 c hx hy (nI j) σ = some σ2 ∧ dFr 22 σ σ2 ∧ ∀ k, k < 256 → σ2.2 22 k = if (j ≤ k / 16 ∧ ((k / 16 : Nat) : Int) ≤ hy.toInt) ∧ lx ≤ k % 16 ∧ ((k % 16 : Nat) : Int) ≤ hx.toInt then c else σ.2 22 k := by
  have hlt : ∀ i : Nat, i < 2 ^ 20 → (hy < nI i ↔ hy.toInt < (i : Int)) := fun i hi => by rw [Int32.lt_iff_toInt_lt, nI_toInt (by omega)]
  have stop : ∀ (j : Nat) (σ : St) (f : Nat), hy.toInt < (j : Int) → j < 2 ^ 20 → ∃ σ2 : St, J_Screen_paintBox_37 N (f + 1) x0 x1 c hx hy (nI j) σ = some σ2 ∧ dFr 22 σ σ2 ∧ ∀ k, k < 256 → σ2.2 22 k = if (j ≤ k / 16 ∧ ((k / 16 : Nat) : Int) ≤ hy.toInt) ∧ lx ≤ k % 16 ∧ ((k % 16 : Nat) : Int) ≤ hx.toInt then c else σ.2 22 k := by
    intro j σ f h1 h2
    refine ⟨σ, ?_, dFr.rf _ _, fun k hk => ?_⟩
    · rw [J_Screen_paintBox_37, if_pos ((hlt j h2).mpr h1)]
    · rw [if_neg (fun w => by omega)]
  intro d
  induction d with
  | zero =>
    intro j σ f hd hj hf
    obtain ⟨f, rfl⟩ : ∃ k, f = k + 1 := ⟨f - 1, by omega⟩
    exact stop j σ f (by omega) hj
  | succ d ih =>
    intro j σ f hd hj hf
    obtain ⟨f, rfl⟩ : ∃ k, f = k + 1 := ⟨f - 1, by omega⟩
    by_cases q : hy.toInt < (j : Int)
    · exact stop j σ f q hj
    · obtain ⟨σ1, k1, k2, k3⟩ := pc_box2 (N := N) (j := j) (K37 := fun l1 l3 l5 l6 l7 l8 σ => J_Screen_paintBox_37 N f l1 l3 l5 l6 l7 l8 σ) (x0 := x0) (x1 := x1) (c := c) (hx := hx) (hy := hy) (by omega) hh 20 lx σ N (by omega) hlx (by omega)
      obtain ⟨σ2, g1, g2, g3⟩ := ih (j + 1) σ1 f (by omega) (by omega) (by omega)
      refine ⟨σ2, ?_, k2.tr g2, fun k hk => ?_⟩
      · rw [J_Screen_paintBox_37, if_neg (fun w => q ((hlt j hj).mp w)), pu_mn, ax_bs, pu_mx, ax_bs, he]
        exact k1.trans g1
      · rw [g3 k hk, k3 k hk]
        by_cases y : lx ≤ k % 16 ∧ ((k % 16 : Nat) : Int) ≤ hx.toInt
        · by_cases z : k / 16 = j
          · rw [if_neg (fun w => by omega), if_pos ⟨z, y⟩, if_pos ⟨by omega, y⟩]
          · by_cases z2 : j + 1 ≤ k / 16 ∧ ((k / 16 : Nat) : Int) ≤ hy.toInt
            · rw [if_pos ⟨z2, y⟩, if_pos ⟨by omega, y⟩]
            · rw [if_neg (fun w => z2 w.1), if_neg (fun w => z w.1), if_neg (fun w => by omega)]
        · rw [if_neg (fun w => y w.2), if_neg (fun w => y w.2), if_neg (fun w => y w.2)]
theorem pu_box {N : Nat} {x0 y0 x1 y1 c : Int32} {σ τ : St} (hN1 : 100 ≤ N) (hx0 : cIn x0) (hy0 : cIn y0) (hx1 : cIn x1) (hy1 : cIn y1) (h : dEq σ τ) : pR σ τ (J_Screen_paintBox N x0 y0 x1 y1 c σ) (J_Mod_box N x0 y0 x1 y1 c τ) := by
  obtain ⟨a1, a2⟩ := hx0
  obtain ⟨a3, a4⟩ := hy0
  obtain ⟨a5, a6⟩ := hx1
  obtain ⟨a7, a8⟩ := hy1
  obtain ⟨τ2, m1, m2, m3⟩ := pm_box (N := N) (x0 := x0) (y0 := y0) (x1 := x1) (y1 := y1) (c := c) (τ := τ) hN1
  have t0 : (0 : Int32).toInt = 0 := rfl
  have t15 : (15 : Int32).toInt = 15 := rfl
  have lo : ∀ a b : Int32, -32768 ≤ a.toInt → a.toInt ≤ 32767 → -32768 ≤ b.toInt → b.toInt ≤ 32767 → ∃ n : Nat, n < 2 ^ 20 ∧ mxI (mnI a b) 0 = nI n ∧ ((n : Int) = if a.toInt < b.toInt then (if a.toInt < 0 then 0 else a.toInt) else (if b.toInt < 0 then 0 else b.toInt)) := by
    intro a b b1 b2 b3 b4
    have e := mxI_t (mnI a b) 0
    rw [mnI_t, t0] at e
    have hp : 0 ≤ (mxI (mnI a b) 0).toInt ∧ (mxI (mnI a b) 0).toInt ≤ 32767 := by
      rw [e]
      repeat' split
      all_goals omega
    obtain ⟨n, n1, n2, n3⟩ := tI_of (x := mxI (mnI a b) 0) rfl hp.1
    refine ⟨n, by omega, n3, ?_⟩
    rw [n1, e]
    repeat' split
    all_goals omega
  have hiT : ∀ a b : Int32, (mnI (mxI a b) 15).toInt = if a.toInt < b.toInt then (if 15 < b.toInt then 15 else b.toInt) else (if 15 < a.toInt then 15 else a.toInt) := by
    intro a b
    rw [mnI_t, mxI_t, t15]
    repeat' split
    all_goals omega
  obtain ⟨lx, x1', x2', x3'⟩ := lo x0 x1 a1 a2 a5 a6
  obtain ⟨ly, y1', y2', y3'⟩ := lo y0 y1 a3 a4 a7 a8
  have hX := hiT x0 x1
  have hY := hiT y0 y1
  have hX15 : (mnI (mxI x0 x1) 15).toInt ≤ 15 := by
    rw [hX]
    repeat' split
    all_goals omega
  have hY15 : (mnI (mxI y0 y1) 15).toInt ≤ 15 := by
    rw [hY]
    repeat' split
    all_goals omega
  obtain ⟨σ2, g1, g2, g3⟩ := pc_box3 (N := N) (c := c) hN1 hX15 hY15 x1' x2' 20 ly σ N (by omega) y1' (by omega)
  refine ⟨σ2, τ2, ?_, m1, g2, m2, fun k hk => ?_⟩
  · rw [J_Screen_paintBox, pu_mx, ax_bs, pu_mn, ax_bs, pu_mx, ax_bs, pu_mn, ax_bs, pu_mn, ax_bs, pu_mx, ax_bs, y2']
    exact g1
  · rw [g3 k hk, m3 k hk, h k hk]
    have bx : btw x0 x1 (nI (k % 16)) = true ↔ lx ≤ k % 16 ∧ ((k % 16 : Nat) : Int) ≤ (mnI (mxI x0 x1) 15).toInt := by
      rw [btw_t, nI_toInt (by omega), hX]
      repeat' split at x3'
      all_goals (repeat' split)
      all_goals omega
    have bY : btw y0 y1 (nI (k / 16)) = true ↔ ly ≤ k / 16 ∧ ((k / 16 : Nat) : Int) ≤ (mnI (mxI y0 y1) 15).toInt := by
      rw [btw_t, nI_toInt (by omega), hY]
      repeat' split at y3'
      all_goals (repeat' split)
      all_goals omega
    by_cases q : btw x0 x1 (nI (k % 16)) = true ∧ btw y0 y1 (nI (k / 16)) = true
    · rw [if_pos q, if_pos ⟨bY.mp q.2, bx.mp q.1⟩]
    · rw [if_neg q, if_neg (fun w => q ⟨bx.mpr w.2, bY.mpr w.1⟩)]
theorem pu_cls {N : Nat} {c : Int32} {σ τ : St} (hN1 : 300 ≤ N) : pR σ τ (J_Screen_paintAll N c σ) (J_Mod_box N 0 0 15 15 c τ) := by
  obtain ⟨τ2, m1, m2, m3⟩ := pm_box (N := N) (x0 := 0) (y0 := 0) (x1 := 15) (y1 := 15) (c := c) (τ := τ) (by omega)
  refine ⟨(σ.1, va_up σ.2 22 (fillF (σ.2 22) 0 256 c)), τ2, ?_, m1, ⟨rfl, fun k hk => va_up_ne _ _ hk⟩, m2, fun k hk => ?_⟩
  · have := fill_29 (N := N) (v := c) N 0 σ (by omega) (by omega)
    have this : J_CArrays_fill_29_5 N N c 0 256 σ = _ := this
    rw [J_Screen_paintAll, J_CArrays_fill_29, this, ax_bsV]
  · have b : ∀ i, i < 16 → btw 0 15 (nI i) = true := by decide +kernel
    rw [m3 k hk, if_pos ⟨b _ (by omega), b _ (by omega)⟩]
    show va_up σ.2 22 (fillF (σ.2 22) 0 256 c) 22 k = c
    rw [va_up_self, fillF_in (Nat.zero_le _) hk]
