/-! PURE ROWS 35: a frame, on both sides. -/
def HC (σ σ2 : St) : Prop := (∀ k, k ≠ 19 → k ≠ 20 → k ≠ 21 → k ≠ 22 → σ2.1 k = σ.1 k) ∧ ∀ k, k ≠ 19 → k ≠ 20 → k ≠ 21 → k ≠ 22 → k ≠ 23 → σ2.2 k = σ.2 k
def HM (τ τ2 : St) : Prop := (∀ k, k < 5 ∨ 12 < k → τ2.1 k = τ.1 k) ∧ ∀ k, k < 7 ∨ k = 8 ∨ 15 < k → τ2.2 k = τ.2 k
theorem HC.tr {a b c : St} (h : HC a b) (h2 : HC b c) : HC a c := ⟨fun k x y z u => (h2.1 k x y z u).trans (h.1 k x y z u), fun k x y z u v => (h2.2 k x y z u v).trans (h.2 k x y z u v)⟩
theorem HM.tr {a b c : St} (h : HM a b) (h2 : HM b c) : HM a c := ⟨fun k x => (h2.1 k x).trans (h.1 k x), fun k x => (h2.2 k x).trans (h.2 k x)⟩
theorem hC.H {a b : St} (h : hC a b) : HC a b := ⟨fun k x _ _ u => h.1 k x u, fun k x y z u _ => h.2 k x y z u⟩
theorem hM.H {a b : St} (h : hM a b) : HM a b := ⟨fun k x => h.1 k (by omega) (by omega) (by omega) (by omega) (by omega) (by omega), fun k x => h.2 k (by omega) (by omega) (by omega) (by omega) (by omega) (by omega) (by omega)⟩
theorem HC.f (σ : St) (j : Nat) (v : Int32) (h : j = 19 ∨ j = 20 ∨ j = 21 ∨ j = 22) : HC σ (sF σ j v) := ⟨fun k _ _ _ _ => if_neg (by omega), fun _ _ _ _ _ _ => rfl⟩
theorem HM.f (τ : St) (j : Nat) (v : Int32) (h : 5 ≤ j ∧ j ≤ 12) : HM τ (sF τ j v) := ⟨fun k _ => if_neg (by omega), fun _ _ => rfl⟩
def FR (n : Nat) (σ τ : St) : Prop := n ≤ 28 ∧ σ.1 16 = nI n ∧ τ.1 1 = nI n ∧ (∀ l, l < n → lnR σ τ l) ∧ (∀ k, k < n → lineOK (σ.2 12) (σ.2 17) (τ.2 8) k n) ∧ envR σ τ ∧ σ.1 19 = τ.1 5 ∧ ∃ hi : Nat, hi ≤ 60 ∧ τ.1 12 = nI hi
theorem FR.mv {n : Nat} {σ τ σ2 τ2 : St} (h : FR n σ τ) (hc : HC σ σ2) (hm : HM τ τ2) (hE : envR σ2 τ2) (hs : σ2.1 19 = τ2.1 5) (hh : ∃ hi : Nat, hi ≤ 60 ∧ τ2.1 12 = nI hi) : FR n σ2 τ2 := by
  obtain ⟨a1, a2, a3, a4, a5, -, -, -⟩ := h
  refine ⟨a1, (hc.1 16 (by decide) (by decide) (by decide) (by decide)).trans a2, (hm.1 1 (by omega)).trans a3, fun l hl => ?_, ?_, hE, hs, hh⟩
  · exact (a4 l hl).cg (by rw [hm.2 4 (by omega)]) (by rw [hm.2 5 (by omega)]) (fun j _ => ⟨by rw [hm.2 1 (by omega)], by rw [hm.2 2 (by omega)]⟩) (by rw [hc.2 12 (by decide) (by decide) (by decide) (by decide) (by decide)]) (by rw [hc.2 13 (by decide) (by decide) (by decide) (by decide) (by decide)]) (by rw [hc.2 14 (by decide) (by decide) (by decide) (by decide) (by decide)]) (fun j _ => ⟨by rw [hc.2 15 (by decide) (by decide) (by decide) (by decide) (by decide)], by rw [hc.2 16 (by decide) (by decide) (by decide) (by decide) (by decide)]⟩)
  · rw [hc.2 12 (by decide) (by decide) (by decide) (by decide) (by decide), hc.2 17 (by decide) (by decide) (by decide) (by decide) (by decide), hm.2 8 (by omega)]
    exact a5
theorem sRel_mk {c m : Int32} (h : sRel c m) : (c = 5 ↔ m = 11) ∧ (c = 7 ↔ m = 13) := by
  rcases h with ⟨rfl, rfl⟩ | ⟨rfl, rfl⟩ | ⟨rfl, rfl⟩ | ⟨rfl, rfl⟩ | ⟨rfl, rfl⟩ | ⟨rfl, rfl⟩ | ⟨rfl, rfl⟩ | ⟨rfl, rfl⟩ | ⟨rfl, rfl⟩ | ⟨rfl, rfl⟩ <;> decide
theorem pu_mark {N n p : Nat} {σ : St} (hn : n ≤ 28) (h16 : σ.1 16 = nI n) (hp : p ≤ n) : J_Program_isMark N (nI p) σ = some (if p < n ∧ (σ.2 12 p = 5 ∨ σ.2 12 p = 7) then 1 else 0, σ) := by
  rw [J_Program_isMark, h16]
  by_cases q : p = n
  · rw [if_pos (nI_le (by omega) (by omega)), if_neg (fun w => by omega)]
  · rw [if_neg (nI_ge (by omega) (by omega)), if_pos (pu_inB (by omega) (by decide)), nI_clamp (by omega)]
    by_cases q5 : σ.2 12 p = 5
    · rw [if_pos q5, if_pos ⟨by omega, Or.inl q5⟩]
    · rw [if_neg q5, if_pos (pu_inB (by omega) (by decide))]
      by_cases q7 : σ.2 12 p = 7
      · rw [if_pos q7, if_pos ⟨by omega, Or.inr q7⟩]
      · rw [if_neg q7, if_neg (fun w => by
          rcases w.2 with z | z
          · exact q5 z
          · exact q7 z)]
theorem pu_skip {N n : Nat} {σ τ : St} (h : FR n σ τ) : ∀ (d p i f : Nat), n - p ≤ d → p ≤ n → i ≤ p → d + 2 < f → ∃ (p2 c : Nat), p2 ≤ n ∧ c ≤ d + 1 ∧ J_Program_skipMarks_4 N f (nI p) (nI i) σ = some (nI p2, σ) ∧ (p2 < n → ¬ σ.2 12 p2 = 5 ∧ ¬ σ.2 12 p2 = 7) ∧ ∀ g, J_Mod_frame_76 N (g + c) (nI p) τ = J_Mod_frame_76 N g (nI p2) τ := by
  obtain ⟨a1, a2, a3, a4, a5, -, -, -⟩ := h
  have stop : ∀ (p i f : Nat), p ≤ n → i < 2 ^ 20 → (p < n → ¬ σ.2 12 p = 5 ∧ ¬ σ.2 12 p = 7) → J_Program_skipMarks_4 N (f + 1) (nI p) (nI i) σ = some (nI p, σ) := by
    intro p i f hp hi hq
    rw [J_Program_skipMarks_4]
    by_cases z : 28 ≤ nI i
    · rw [if_pos z]
    · have m0 : J_Program_isMark N (nI p) σ = some (0, σ) := by
        rw [pu_mark a1 a2 hp, if_neg (fun w => by
          obtain ⟨w1, w2⟩ := hq w.1
          rcases w.2 with y | y
          · exact w1 y
          · exact w2 y)]
      rw [if_neg z, m0, ax_bs, if_pos rfl]
  intro d
  induction d with
  | zero =>
    intro p i f hd hp hi hf
    obtain ⟨f, rfl⟩ : ∃ k, f = k + 1 := ⟨f - 1, by omega⟩
    exact ⟨p, 0, hp, by omega, stop p i f hp (by omega) (fun w => by omega), fun w => by omega, fun g => rfl⟩
  | succ d ih =>
    intro p i f hd hp hi hf
    obtain ⟨f, rfl⟩ : ∃ k, f = k + 1 := ⟨f - 1, by omega⟩
    by_cases q : p < n ∧ (σ.2 12 p = 5 ∨ σ.2 12 p = 7)
    case neg =>
      have hq : p < n → ¬ σ.2 12 p = 5 ∧ ¬ σ.2 12 p = 7 := fun w => ⟨fun y => q ⟨w, Or.inl y⟩, fun y => q ⟨w, Or.inr y⟩⟩
      exact ⟨p, 0, hp, by omega, stop p i f hp (by omega) hq, hq, fun g => rfl⟩
    obtain ⟨q1, q2⟩ := q
    obtain ⟨r5, r7⟩ := sRel_mk (a4 p q1).s
    obtain ⟨o1', o2'⟩ := a5 p q1
    have stC : ∀ e : Nat, σ.2 17 p = nI e → J_Program_skipMarks_4 N (f + 1) (nI p) (nI i) σ = J_Program_skipMarks_4 N f (nI e) (nI (i + 1)) σ := by
      intro e he
      have m1 : J_Program_isMark N (nI p) σ = some (1, σ) := by rw [pu_mark a1 a2 hp, if_pos ⟨q1, q2⟩]
      rw [J_Program_skipMarks_4, if_neg (show ¬ 28 ≤ nI i from nI_ge (b := 28) (by omega) (by decide)), m1, ax_bs, if_neg (show ¬ (1 : Int32) = 0 by decide), if_pos (pu_inB (by omega) (by decide)), nI_clamp (by omega), he, nI_1, ax_let, ax_let]
    have stM : ∀ (e g : Nat), J_Mod_done N (nI p) (τ.2 1 (48 * p)) τ = some (nI e, τ) → J_Mod_frame_76 N (g + 1) (nI p) τ = J_Mod_frame_76 N g (nI e) τ := by
      intro e g he
      rw [J_Mod_frame_76, a3, if_neg (nI_ge q1 (by omega)), pu_48, if_pos (pu_inB (by omega) (by decide)), nI_clamp (by omega), ax_let]
      rcases q2 with y | y
      · have y2 := r5.mp y
        rw [if_pos y2, he, ax_bs]
      · have y2 := r7.mp y
        rw [if_neg (by rw [y2]; decide), if_pos y2, he, ax_bs]
    rcases q2 with y | y
    · obtain ⟨e, e1, e2, e3, e4⟩ := o1' (Or.inr (Or.inl y))
      obtain ⟨p2, c, g1, g2, g3, g4, g5⟩ := ih (e + 1) (i + 1) f (by omega) (by omega) (by omega) (by omega)
      refine ⟨p2, c + 1, g1, by omega, (stC (e + 1) e4).trans g3, g4, fun g => ?_⟩
      refine (stM (e + 1) (g + c) ?_).trans (g5 g)
      rw [J_Mod_done, ax_let, if_pos (r5.mp y), if_pos (pu_inB (by omega) (by decide)), nI_clamp (by omega), e3, nI_1]
    · have y2 := r7.mp y
      rcases o2' y with ⟨e1, e2⟩ | ⟨e, e1, e2, e3, e4⟩
      · obtain ⟨p2, c, g1, g2, g3, g4, g5⟩ := ih (p + 1) (i + 1) f (by omega) (by omega) (by omega) (by omega)
        refine ⟨p2, c + 1, g1, by omega, (stC (p + 1) e2).trans g3, g4, fun g => ?_⟩
        refine (stM (p + 1) (g + c) ?_).trans (g5 g)
        rw [J_Mod_done, ax_let, if_neg (by rw [y2]; decide), if_pos y2, if_pos (pu_inB (by omega) (by decide)), nI_clamp (by omega), e1, if_pos (by decide), nI_1]
      · have hq : e < n → ¬ σ.2 12 e = 5 ∧ ¬ σ.2 12 e = 7 := fun _ => by rw [e2]; decide
        obtain ⟨f, rfl⟩ : ∃ k, f = k + 1 := ⟨f - 1, by omega⟩
        refine ⟨e, 1, by omega, by omega, (stC e e4).trans (stop e (i + 1) f (by omega) (by omega) hq), hq, fun g => ?_⟩
        refine stM e g ?_
        rw [J_Mod_done, ax_let, if_neg (by rw [y2]; decide), if_pos y2, if_pos (pu_inB (by omega) (by decide)), nI_clamp (by omega), e3, if_neg (nI_pos (by omega)), if_pos (pu_inB (by omega) (by decide))]
theorem fr_loop {N n : Nat} (hN1 : 300 ≤ N) : ∀ (d s p : Nat) (σ τ : St) (f g : Nat), s + d = 300 → FR n σ τ → σ.1 21 = nI s → τ.1 7 = nI s → p ≤ n → (p < n → ¬ σ.2 12 p = 5 ∧ ¬ σ.2 12 p = 7) → d < f → 40 * (d + 1) ≤ g → ∃ (b s2 : Nat) (σ2 τ2 : St), b ≤ 1 ∧ J_Machine_runFrame_32 N f (nI p) σ = some (nI b, σ2) ∧ J_Mod_frame_76 N g (nI p) τ = some (nI (1 - b), τ2) ∧ FR n σ2 τ2 ∧ HC σ σ2 ∧ HM τ τ2 ∧ σ2.1 20 = σ.1 20 ∧ τ2.1 6 = τ.1 6 ∧ σ2.1 21 = nI s2 ∧ τ2.1 7 = nI s2 := by
  intro d
  induction d with
  | zero =>
    intro s p σ τ f g hd h h21 h7 hp hq hf hg
    obtain ⟨f, rfl⟩ : ∃ k, f = k + 1 := ⟨f - 1, by omega⟩
    obtain ⟨g, rfl⟩ : ∃ k, g = k + 1 := ⟨g - 1, by omega⟩
    have hs : s = 300 := by omega
    subst hs
    obtain ⟨a1, a2, a3, a4, -⟩ := id h
    have stC : J_Machine_runFrame_32 N (f + 1) (nI p) σ = J_Machine_runFrame_79 N (nI p) σ := by
      rw [J_Machine_runFrame_32, h21, if_pos (show 300 ≤ nI 300 from Int32.le_refl _)]
    by_cases q : p = n
    · refine ⟨1, 300, σ, τ, by omega, ?_, ?_, h, ⟨fun _ _ _ _ _ => rfl, fun _ _ _ _ _ _ => rfl⟩, ⟨fun _ _ => rfl, fun _ _ => rfl⟩, rfl, rfl, h21, h7⟩
      · rw [stC, J_Machine_runFrame_79, a2, if_neg (nI_nlt (by omega) (by omega))]
        rfl
      · rw [J_Mod_frame_76, a3, if_pos (nI_le (by omega) (by omega))]
        rfl
    · obtain ⟨q5, q7⟩ := hq (by omega)
      obtain ⟨r5, r7⟩ := sRel_mk (a4 p (by omega)).s
      refine ⟨0, 300, σ, τ, by omega, ?_, ?_, h, ⟨fun _ _ _ _ _ => rfl, fun _ _ _ _ _ _ => rfl⟩, ⟨fun _ _ => rfl, fun _ _ => rfl⟩, rfl, rfl, h21, h7⟩
      · rw [stC, J_Machine_runFrame_79, a2, if_pos (nI_lt (by omega) (by omega))]
        rfl
      · rw [J_Mod_frame_76, a3, if_neg (nI_ge (by omega) (by omega)), pu_48, if_pos (pu_inB (by omega) (by decide)), nI_clamp (by omega), ax_let, if_neg (fun w => q5 (r5.mpr w)), if_neg (fun w => q7 (r7.mpr w)), h7, if_pos (show nI 300 = 300 from rfl)]
        rfl
  | succ d ih =>
    intro s p σ τ f g hd h h21 h7 hp hq hf hg
    obtain ⟨f, rfl⟩ : ∃ k, f = k + 1 := ⟨f - 1, by omega⟩
    obtain ⟨g, rfl⟩ : ∃ k, g = k + 1 := ⟨g - 1, by omega⟩
    obtain ⟨a1, a2, a3, a4, a5, a6, a7, a8⟩ := id h
    have stC : J_Machine_runFrame_32 N (f + 1) (nI p) σ = (if nI n ≤ nI p then J_Machine_runFrame_79 N (nI p) σ else ax_bind (J_Machine_doLine N (nI p) σ) (fun r2 σ5 => ax_bind (J_Program_skipMarks N r2 σ5) (fun r3 σ6 => ax_let (sF σ6 21 ((σ6.1 21) + 1)) (fun σ7 => J_Machine_runFrame_32 N f r3 σ7)))) := by
      rw [J_Machine_runFrame_32, h21, if_neg (show ¬ 300 ≤ nI s from nI_ge (b := 300) (by omega) (by decide)), a2]
    by_cases q : p = n
    · refine ⟨1, s, σ, τ, by omega, ?_, ?_, h, ⟨fun _ _ _ _ _ => rfl, fun _ _ _ _ _ _ => rfl⟩, ⟨fun _ _ => rfl, fun _ _ => rfl⟩, rfl, rfl, h21, h7⟩
      · rw [stC, if_pos (nI_le (by omega) (by omega)), J_Machine_runFrame_79, a2, if_neg (nI_nlt (by omega) (by omega))]
        rfl
      · rw [J_Mod_frame_76, a3, if_pos (nI_le (by omega) (by omega))]
        rfl
    · have hpn : p < n := by omega
      obtain ⟨q5, q7⟩ := hq hpn
      obtain ⟨r5, r7⟩ := sRel_mk (a4 p hpn).s
      have hm7 : HM τ (sF τ 7 (nI (s + 1))) := HM.f τ 7 _ (by omega)
      have h' : FR n σ (sF τ 7 (nI (s + 1))) := h.mv ⟨fun _ _ _ _ _ => rfl, fun _ _ _ _ _ _ => rfl⟩ hm7 a6 a7 a8
      obtain ⟨r, σ1, τ1, d1, d2, d3, d4, d5, d6, d7, d8⟩ := pu_do (N := N) (σ := σ) (τ := sF τ 7 (nI (s + 1))) hN1 hpn a1 (h'.2.2.2.1 p hpn) (a5 p hpn) a6 a7 a8 q5 q7
      have d3 : J_Mod_done N (nI p) (τ.2 1 (48 * p)) (sF τ 7 (nI (s + 1))) = some (nI r, τ1) := d3
      have h1 : FR n σ1 τ1 := h'.mv d4.H d5.H d6 d7 d8
      obtain ⟨p2, c, s1, s2, s3, s4, s5⟩ := pu_skip (N := N) h1 n r 0 N (by omega) d1 (Nat.zero_le _) (by omega)
      have e21 : σ1.1 21 = nI s := (d4.1 21 (by decide) (by decide)).trans h21
      have h2 : FR n (sF σ1 21 (nI (s + 1))) τ1 := h1.mv (HC.f σ1 21 _ (by omega)) ⟨fun _ _ => rfl, fun _ _ => rfl⟩ d6 d7 d8
      obtain ⟨g2, hg2⟩ : ∃ k, g = k + c := ⟨g - c, by omega⟩
      obtain ⟨b, sE, σ3, τ3, i1, i2, i3, i4, i5, i6, i7, i8, i9, i10⟩ := ih (s + 1) p2 (sF σ1 21 (nI (s + 1))) τ1 f g2 (by omega) h2 rfl ((d5.1 7 (by decide) (by decide) (by decide) (by decide) (by decide) (by decide)).trans rfl) s1 s4 (by omega) (by omega)
      refine ⟨b, sE, σ3, τ3, i1, ?_, ?_, i4, d4.H.tr ((HC.f σ1 21 _ (by omega)).tr i5), hm7.tr (d5.H.tr i6), i7.trans (d4.1 20 (by decide) (by decide)), i8.trans (d5.1 6 (by decide) (by decide) (by decide) (by decide) (by decide) (by decide)), i9, i10⟩
      · rw [stC, if_neg (nI_ge (by omega) (by omega)), d2, ax_bs, J_Program_skipMarks]
        have s3 : J_Program_skipMarks_4 N N (nI r) 0 σ1 = some (nI p2, σ1) := s3
        rw [s3, ax_bs, e21, nI_1, ax_let]
        exact i2
      · rw [J_Mod_frame_76, a3, if_neg (nI_ge (by omega) (by omega)), pu_48, if_pos (pu_inB (by omega) (by decide)), nI_clamp (by omega), ax_let, if_neg (fun w => q5 (r5.mpr w)), if_neg (fun w => q7 (r7.mpr w)), h7, if_neg (show ¬ nI s = 300 from fun w => by
          have := (nI_eq (b := 300) (by omega) (by decide)).mp w
          omega), nI_1, ax_let, d3, ax_bs, hg2, s5 g2]
        exact i3
theorem pu_press {N : Nat} {a : Int32} : ∀ (d i : Nat) (σ τ : St) (f g : Nat), i + d = 6 → d < f → d < g → (∀ k, k < 6 → σ.2 23 k = τ.2 11 k) → ∃ (σ2 τ2 : St), J_Pad_press_2 N f a (nI i) σ = some σ2 ∧ J_Mod_frame_21 N g a (nI i) τ = J_Mod_frame_76 N N 0 (sF (sF τ2 6 ((τ2.1 6) + 1)) 7 0) ∧ dFr 23 σ σ2 ∧ dFr 11 τ τ2 ∧ ∀ k, k < 6 → σ2.2 23 k = τ2.2 11 k := by
  intro d
  induction d with
  | zero =>
    intro i σ τ f g hi hf hg h
    obtain ⟨f, rfl⟩ : ∃ k, f = k + 1 := ⟨f - 1, by omega⟩
    obtain ⟨g, rfl⟩ : ∃ k, g = k + 1 := ⟨g - 1, by omega⟩
    have h6 : 6 ≤ nI i := nI_le (a := 6) (by omega) (by omega)
    refine ⟨σ, τ, by rw [J_Pad_press_2, if_pos h6], by rw [J_Mod_frame_21, if_pos h6, ax_let, ax_let], dFr.rf _ _, dFr.rf _ _, h⟩
  | succ d ih =>
    intro i σ τ f g hi hf hg h
    obtain ⟨f, rfl⟩ : ∃ k, f = k + 1 := ⟨f - 1, by omega⟩
    obtain ⟨g, rfl⟩ : ∃ k, g = k + 1 := ⟨g - 1, by omega⟩
    have h6 : ¬ 6 ≤ nI i := nI_ge (b := 6) (by omega) (by decide)
    have hb : inB (nI i) 6 = true := pu_inB (by omega) (by decide)
    have hcl : (nI i).toNatClampNeg = i := nI_clamp (by omega)
    have st : ∀ v : Int32, (J_Pad_press_2 N (f + 1) a (nI i) σ = J_Pad_press_2 N f a (nI (i + 1)) (sA σ 23 i v)) → (J_Mod_frame_21 N (g + 1) a (nI i) τ = J_Mod_frame_21 N g a (nI (i + 1)) (sA τ 11 i v)) → ∃ (σ2 τ2 : St), J_Pad_press_2 N (f + 1) a (nI i) σ = some σ2 ∧ J_Mod_frame_21 N (g + 1) a (nI i) τ = J_Mod_frame_76 N N 0 (sF (sF τ2 6 ((τ2.1 6) + 1)) 7 0) ∧ dFr 23 σ σ2 ∧ dFr 11 τ τ2 ∧ ∀ k, k < 6 → σ2.2 23 k = τ2.2 11 k := by
      intro v h1 h2
      obtain ⟨σ2, τ2, g1, g2, g3, g4, g5⟩ := ih (i + 1) (sA σ 23 i v) (sA τ 11 i v) f g (by omega) (by omega) (by omega) (fun k hk => by
        rw [sA_self, sA_self]
        by_cases z : k = i
        · rw [z, pk_us, pk_us]
        · rw [pk_un z, pk_un z]
          exact h k hk)
      exact ⟨σ2, τ2, h1.trans g1, h2.trans g2, (dFr.s _ _ _ _).tr g3, (dFr.s _ _ _ _).tr g4, g5⟩
    obtain ⟨j, hj, e⟩ := pk_andE (a >>> (nI i &&& 31) : Int32) (m := 1) 1 (by decide)
    by_cases z : j = 0
    · subst z
      refine st 0 ?_ ?_
      · rw [J_Pad_press_2, if_neg h6, e, if_neg (by decide), if_pos hb, hcl, ax_let, nI_1, ax_let]
      · rw [J_Mod_frame_21, if_neg h6, e, if_pos (show nI 0 = 0 from rfl), if_pos hb, hcl, ax_let, nI_1, ax_let]
    · obtain rfl : j = 1 := by omega
      refine st (τ.2 11 i + 1) ?_ ?_
      · rw [J_Pad_press_2, if_neg h6, e, if_pos (show nI 1 = 1 from rfl), if_pos hb, if_pos hb, hcl, h i (by omega), ax_let, nI_1, ax_let]
      · rw [J_Mod_frame_21, if_neg h6, e, if_neg (by decide), if_pos hb, if_pos hb, hcl, ax_let, nI_1, ax_let]
theorem pu_frame {N : Nat} {a : Int32} {σ τ : St} (hN1 : 20000 ≤ N) (h : rel σ τ) : ∃ (r : Int32) (σ2 τ2 : St), J_Con_frame N a σ = some (r, σ2) ∧ J_Mod_frame N a τ = some (r, τ2) ∧ rel σ2 τ2 := by
  obtain ⟨g1, g2, g3, g4, g5, ⟨n, p1, p2, p3, p4, p5⟩, ⟨e1, e2, e3, e4⟩, ⟨f1, f2, f3⟩, gh⟩ := id h
  rw [J_Con_frame, J_Mod_frame]
  by_cases q1 : a < 0
  · rw [if_pos q1, if_pos q1]
    exact ⟨_, _, _, rfl, rfl, h⟩
  rw [if_neg q1, if_neg q1]
  by_cases q2 : 63 < a
  · rw [if_pos q2, if_pos q2]
    exact ⟨_, _, _, rfl, rfl, h⟩
  rw [if_neg q2, if_neg q2]
  by_cases q3 : σ.1 17 = 0
  · rw [if_pos q3, if_pos (by rw [← g5]; exact q3)]
    exact ⟨_, _, _, rfl, rfl, h⟩
  rw [if_neg q3, if_neg (by rw [← g5]; exact q3)]
  have hlo := p5.resolve_left q3
  obtain ⟨σ1, τ1, k1, k2, k3, k4, k5⟩ := pu_press (N := N) (a := a) 6 0 σ τ N N (by omega) (by omega) (by omega) e4
  have k1 : J_Pad_press_2 N N a 0 σ = some σ1 := k1
  have k2 : J_Mod_frame_21 N N a 0 τ = _ := k2
  have hc1 : HC σ (sF (sF σ1 20 (σ1.1 20 + 1)) 21 0) := HC.tr (b := σ1) ⟨fun k _ _ _ _ => by rw [k3.1], fun k _ _ _ _ e => k3.2 k e⟩ ((HC.f σ1 20 _ (by omega)).tr (HC.f _ 21 _ (by omega)))
  have hm1 : HM τ (sF (sF τ1 6 (τ1.1 6 + 1)) 7 0) := HM.tr (b := τ1) ⟨fun k _ => by rw [k4.1], fun k x => k4.2 k (by omega)⟩ ((HM.f τ1 6 _ (by omega)).tr (HM.f _ 7 _ (by omega)))
  have env1 : envR (sF (sF σ1 20 (σ1.1 20 + 1)) 21 0) (sF (sF τ1 6 (τ1.1 6 + 1)) 7 0) := ⟨by show ∀ k, k < 12 → σ1.2 19 k = τ1.2 7 k; rw [k3.2 19 (by decide), k4.2 7 (by decide)]; exact e1, by show ∀ k, k < 32 → σ1.2 20 k = τ1.2 9 k; rw [k3.2 20 (by decide), k4.2 9 (by decide)]; exact e2, by show ∀ k, k < 256 → σ1.2 22 k = τ1.2 10 k; rw [k3.2 22 (by decide), k4.2 10 (by decide)]; exact e3, k5⟩
  have hs1 : (sF (sF σ1 20 (σ1.1 20 + 1)) 21 0).1 19 = (sF (sF τ1 6 (τ1.1 6 + 1)) 7 0).1 5 := by
    show σ1.1 19 = τ1.1 5
    rw [k3.1, k4.1]
    exact f1
  have hh1 : ∃ hi : Nat, hi ≤ 60 ∧ (sF (sF τ1 6 (τ1.1 6 + 1)) 7 0).1 12 = nI hi := by
    show ∃ hi : Nat, hi ≤ 60 ∧ τ1.1 12 = nI hi
    rw [k4.1]
    exact gh
  have hF0 : FR n σ τ := ⟨p1, p2, p3, p4, hlo, ⟨e1, e2, e3, e4⟩, f1, gh⟩
  have hF : FR n (sF (sF σ1 20 (σ1.1 20 + 1)) 21 0) (sF (sF τ1 6 (τ1.1 6 + 1)) 7 0) := hF0.mv hc1 hm1 env1 hs1 hh1
  have hF2 : FR n (sF σ1 20 (σ1.1 20 + 1)) (sF (sF τ1 6 (τ1.1 6 + 1)) 7 0) := by
    refine hF0.mv (HC.tr (b := σ1) ⟨fun k _ _ _ _ => by rw [k3.1], fun k _ _ _ _ e => k3.2 k e⟩ (HC.f σ1 20 _ (by omega))) hm1 env1 hs1 hh1
  obtain ⟨r, c, s1, s2, s3, s4, s5⟩ := pu_skip (N := N) hF2 n 0 0 N (by omega) (by omega) (Nat.le_refl _) (by omega)
  have s3 : J_Program_skipMarks_4 N N 0 0 (sF σ1 20 (σ1.1 20 + 1)) = some (nI r, sF σ1 20 (σ1.1 20 + 1)) := s3
  obtain ⟨g0, hg0⟩ : ∃ k, N = k + c := ⟨N - c, by omega⟩
  obtain ⟨b, sE, σ2, τ2, i1, i2, i3, i4, i5, i6, i7, i8, i9, i10⟩ := fr_loop (N := N) (by omega) 300 0 r (sF (sF σ1 20 (σ1.1 20 + 1)) 21 0) (sF (sF τ1 6 (τ1.1 6 + 1)) 7 0) N g0 (by omega) hF rfl rfl s1 s4 (by omega) (by omega)
  have stC : J_Machine_runFrame N a σ = some (nI b, σ2) := by
    rw [J_Machine_runFrame, J_Pad_press, k1, ax_bsV, ax_let, J_Program_skipMarks, s3, ax_bs, ax_let]
    exact i2
  have stM : J_Mod_frame_21 N N a 0 τ = some (nI (1 - b), τ2) := by
    rw [k2]
    have := s5 g0
    rw [← hg0] at this
    have this : J_Mod_frame_76 N N 0 (sF (sF τ1 6 (τ1.1 6 + 1)) 7 0) = _ := this
    rw [this]
    exact i3
  have hc := hc1.tr i5
  have hm := hm1.tr i6
  refine ⟨nI (1 - b), σ2, τ2, ?_, stM, ?_⟩
  · rw [stC, ax_bs]
    by_cases z : b = 0
    · subst z
      rw [if_pos (show nI 0 = 0 from rfl)]
      rfl
    · obtain rfl : b = 1 := by omega
      rw [if_neg (by decide)]
      rfl
  · obtain ⟨a1, a2, a3, a4, a5, a6, a7, a8⟩ := i4
    refine ⟨?_, ?_, ?_, ?_, ?_, ⟨n, a1, a2, a3, a4, Or.inr a5⟩, a6, ⟨a7, ?_, i9.trans i10.symm⟩, a8⟩
    · rw [hc.1 1 (by decide) (by decide) (by decide) (by decide), hc.2 1 (by decide) (by decide) (by decide) (by decide) (by decide), hm.1 0 (by omega), hm.2 0 (by omega)]
      exact g1
    · rw [hc.1 4 (by decide) (by decide) (by decide) (by decide), hc.2 5 (by decide) (by decide) (by decide) (by decide) (by decide), hm.1 3 (by omega), hm.2 6 (by omega)]
      exact g2
    · rw [hc.2 0 (by decide) (by decide) (by decide) (by decide) (by decide)]
      exact g3
    · rw [hc.1 0 (by decide) (by decide) (by decide) (by decide), hm.1 2 (by omega)]
      exact g4
    · rw [hc.1 17 (by decide) (by decide) (by decide) (by decide), hm.1 4 (by omega)]
      exact g5
    · rw [i7, i8]
      show σ1.1 20 + 1 = τ1.1 6 + 1
      rw [k3.1, k4.1, f2]
