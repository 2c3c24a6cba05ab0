/-! PURE ROWS 10: cutting a text into tokens, on both sides. -/
def cutFrC (σ σ2 : St) : Prop := (∀ k, k ≠ 2 → k ≠ 3 → σ2.1 k = σ.1 k) ∧ ∀ k, k ≠ 2 → k ≠ 3 → k ≠ 4 → σ2.2 k = σ.2 k
def cutFrM (n0 : Nat) (τ τ2 : St) : Prop := (∀ k, k ≠ 13 → τ2.1 k = τ.1 k) ∧ (∀ k, k ≠ 1 → k ≠ 2 → k ≠ 3 → k ≠ 4 → k ≠ 6 → τ2.2 k = τ.2 k) ∧ (∀ x, x < 1344 → τ2.2 1 x = τ.2 1 x ∧ τ2.2 2 x = τ.2 2 x) ∧ (∀ x, x ≠ 28 → τ2.2 4 x = τ.2 4 x) ∧ ∀ x, x < 6 * n0 → τ2.2 6 x = τ.2 6 x
theorem cutFrC.tr {a b c : St} (h : cutFrC a b) (h2 : cutFrC b c) : cutFrC a c := ⟨fun k x y => (h2.1 k x y).trans (h.1 k x y), fun k x y z => (h2.2 k x y z).trans (h.2 k x y z)⟩
theorem cutFrM.tr {n0 : Nat} {a b c : St} (h : cutFrM n0 a b) (h2 : cutFrM n0 b c) : cutFrM n0 a c := ⟨fun k x => (h2.1 k x).trans (h.1 k x), fun k x y z u v => (h2.2.1 k x y z u v).trans (h.2.1 k x y z u v), fun x hx => ⟨(h2.2.2.1 x hx).1.trans (h.2.2.1 x hx).1, (h2.2.2.1 x hx).2.trans (h.2.2.1 x hx).2⟩, fun x hx => (h2.2.2.2.1 x hx).trans (h.2.2.2.1 x hx), fun x hx => (h2.2.2.2.2 x hx).trans (h.2.2.2.2 x hx)⟩
/-- token j on both sides -/
def tk (V : Nat → Nat → Nat) (kb : Nat → Nat) (σ τ : St) (j : Nat) : Prop := tokR V (kb j) (kb (j + 1)) (σ.2 2 j) (σ.2 4 j) (τ.2 1 (1344 + j)) (τ.2 2 (1344 + j)) ∧ σ.2 3 j = τ.2 3 j ∧ ∃ s : Nat, s ≤ 48 ∧ σ.2 3 j = nI s
def cutInv (n n0 i p : Nat) (t : Nat → Nat) (V : Nat → Nat → Nat) (kb : Nat → Nat) (σ τ : St) : Prop :=
  tC σ n t ∧ tM τ n t ∧ (∀ j, j < 17 → σ.2 0 j = tKEYS j) ∧ σ.1 2 = nI i ∧ σ.1 3 = nI p ∧ i ≤ p ∧ p ≤ n ∧ kb 0 = n0 ∧ kb i ≤ n0 + i ∧ n0 ≤ 12 ∧ n0 ≤ kb i ∧
  (∀ k, k < kb i → (∀ j, V k j ≤ 26) ∧ rowIs (τ.2 6) k (V k)) ∧ (∀ j, j < i → tk V kb σ τ j ∧ kb (j + 1) ≤ kb i ∧ ¬ σ.2 2 j = 1)
/-- what the cutting leaves: T tokens -/
def cutEnd (n n0 : Nat) (σ τ : St) : Prop := ∃ (T : Nat) (V : Nat → Nat → Nat) (kb : Nat → Nat), T ≤ 48 ∧ kb 0 = n0 ∧ n0 ≤ kb T ∧ kb T ≤ n0 + T ∧ (∀ k, k < kb T → (∀ j, V k j ≤ 26) ∧ rowIs (τ.2 6) k (V k)) ∧ (∀ j, j < T → tk V kb σ τ j ∧ kb (j + 1) ≤ kb T) ∧ τ.2 4 28 = nI T ∧ τ.1 13 = nI (kb T) ∧
  ((1 ≤ T ∧ σ.2 2 (T - 1) = 1 ∧ ∀ j, j < T - 1 → ¬ σ.2 2 j = 1) ∨ (σ.2 2 T = 0 ∧ σ.2 3 T = nI n ∧ ∀ j, j < T → ¬ σ.2 2 j = 1))
theorem pu_317 {N i kn : Nat} {τ : St} : J_Mod_cut_317 N (nI i) (nI kn) τ = some (sF (sA τ 4 28 (nI i)) 13 (nI kn)) := by
  rw [J_Mod_cut_317, if_pos (by decide), ax_let, ax_let]
  rfl
theorem pu_1344 (i : Nat) : 1344 + nI i = nI (1344 + i) := nI_add 1344 i
theorem sA_at (σ : St) (k i : Nat) (v : Int32) (k2 j : Nat) : (sA σ k i v).2 k2 j = if k2 = k ∧ j = i then v else σ.2 k2 j := by
  by_cases h : k2 = k
  · subst h
    rw [sA_self]
    unfold upd
    by_cases h2 : j = i
    · rw [if_pos h2, if_pos ⟨rfl, h2⟩]
    · rw [if_neg h2, if_neg (fun w => h2 w.2)]
  · rw [sA_ne _ _ _ h, if_neg (fun w => h w.1)]
theorem pu_57 {N i q : Nat} {K : St → Option St} {σ σ2 : St} {kc : Int32} (hi : σ.1 2 = nI i) (hq : σ.1 3 = nI q) (h49 : i < 49) (hT : J_Tokens_cutToken N (sA σ 3 i (nI q)) = some (kc, σ2)) (h2 : σ2.1 2 = nI i) : J_Tokens_cut_57 N K σ = if kc = 0 then some (sA σ2 2 i kc) else if kc = 1 then some (sA σ2 2 i kc) else K (sF (sA σ2 2 i kc) 2 (nI (i + 1))) := by
  have hb : inB (nI i) 49 = true := pu_inB h49 (by decide)
  rw [J_Tokens_cut_57, hi, if_pos hb, nI_clamp (by omega), hq, ax_let, hT, ax_bs, show (sA σ 3 i (nI q)).1 2 = nI i from hi, if_pos hb, nI_clamp (by omega), ax_let, show (sA σ2 2 i kc).1 2 = nI i from h2, if_pos hb, nI_clamp (by omega), sA_self, pk_us]
  by_cases z : kc = 0
  · rw [if_pos z, if_pos z]
  · rw [if_neg z, if_neg z, if_pos hb]
    by_cases z2 : kc = 1
    · rw [if_pos z2, if_pos z2]
    · rw [if_neg z2, if_neg z2, ax_let, nI_1]
theorem pu_265 {N i : Nat} {K : Int32 → Int32 → Int32 → Int32 → St → Option St} {τ : St} {q l3 l5 km mm : Int32} (h49 : i < 49) : J_Mod_cut_265 N K (nI i) q l3 l5 km mm τ = if km = 0 then K (nI (i + 1)) l5 l3 0 (sA (sA (sA τ 1 (1344 + i) km) 2 (1344 + i) mm) 3 i q) else K (nI (i + 1)) l5 l3 1 (sA (sA (sA τ 1 (1344 + i) km) 2 (1344 + i) mm) 3 i q) := by
  rw [J_Mod_cut_265, pu_1344, if_pos (pu_inB (by omega) (by decide)), nI_clamp (by omega), ax_let, if_pos (pu_inB (by omega) (by decide)), ax_let, if_pos (pu_inB h49 (by decide)), nI_clamp (by omega), ax_let, ax_let, nI_1]
/-- the end of the text -/
theorem cut_fin {N n n0 i p : Nat} {t : Nat → Nat} {V : Nat → Nat → Nat} {kb : Nat → Nat} {σ τ : St} {mc mm : Nat} (hN : 300 ≤ N) (hI : cutInv n n0 i p t V kb σ τ) (hq : endP isB t (n - p) p = n) : ∃ σ2 τ2 : St, J_Tokens_cut_10 N (mc + 1) σ = some σ2 ∧ J_Mod_cut_12 N (mm + 1) (nI i) (nI p) (nI (kb i)) 1 τ = some τ2 ∧ cutFrC σ σ2 ∧ cutFrM n0 τ τ2 ∧ cutEnd n n0 σ2 τ2 := by
  obtain ⟨hC, hM, hk, hi, hp, hip, hpn, hb0, hbi, hn0, hnb, hV, ht⟩ := id hI
  have hn := hC.1
  have hT : J_Tokens_cutToken N (sA (sF σ 3 (nI n)) 3 i (nI n)) = some (0, sA (sF σ 3 (nI n)) 3 i (nI n)) := by
    rw [J_Tokens_cutToken, if_pos (show (sA (sF σ 3 (nI n)) 3 i (nI n)).1 3 = (sA (sF σ 3 (nI n)) 3 i (nI n)).1 1 from hC.2.1.symm)]
  refine ⟨sA (sA (sF σ 3 (nI n)) 3 i (nI n)) 2 i 0, sF (sA τ 4 28 (nI i)) 13 (nI (kb i)), ?_, ?_, ⟨fun k _ a => if_neg a, fun k a b c => (sA_ne _ _ _ a).trans (sA_ne _ _ _ b)⟩, ⟨fun k a => if_neg a, fun k _ _ _ a _ => sA_ne τ _ _ a, fun x _ => ⟨rfl, rfl⟩, fun x hx => ?_, fun x _ => rfl⟩, ?_⟩
  · rw [J_Tokens_cut_10, hi, if_neg (show ¬ (48 : Int32) < nI i from nI_nlt (a := 48) (by omega) (by decide)), pu_blanks N p σ hC hp (by omega) (by omega), hq, pu_57 (σ := sF σ 3 (nI n)) hi rfl (by omega) hT hi, if_pos rfl]
  · rw [J_Mod_cut_12, if_neg (by decide), pu_mblanks hM N p (by omega) (by omega), hq, J_Mod_cut_42, hM.2.1, if_neg (nI_nlt (Nat.le_refl _) (by omega)), pu_317]
  · show (sA τ 4 28 (nI i)).2 4 x = _
    rw [sA_at, if_neg (fun w => hx w.2)]
  · refine ⟨i, V, kb, by omega, hb0, hnb, hbi, hV, fun j hj => ?_, ?_, rfl, Or.inr ⟨?_, ?_, fun j hj => ?_⟩⟩
    · obtain ⟨⟨a1, a2, a3⟩, a4, a5⟩ := ht j hj
      have e2 : (sA (sA (sF σ 3 (nI n)) 3 i (nI n)) 2 i 0).2 2 j = σ.2 2 j := by
        rw [sA_at, if_neg (fun w => by omega), sA_at, if_neg (fun w => by omega)]; rfl
      have e3 : (sA (sA (sF σ 3 (nI n)) 3 i (nI n)) 2 i 0).2 3 j = σ.2 3 j := by
        rw [sA_at, if_neg (fun w => by omega), sA_at, if_neg (fun w => by omega)]; rfl
      refine ⟨?_, a4⟩
      unfold tk
      rw [e2, e3]
      exact ⟨a1, a2, a3⟩
    · show (sA τ 4 28 (nI i)).2 4 28 = _
      rw [sA_at, if_pos ⟨rfl, rfl⟩]
    · rw [sA_at, if_pos ⟨rfl, rfl⟩]
    · rw [sA_at, if_neg (fun w => by omega), sA_at, if_pos ⟨rfl, rfl⟩]
    · rw [sA_at, if_neg (fun w => by omega), sA_at, if_neg (fun w => by omega)]
      exact (ht j hj).2.2
theorem tokR_bad {V : Nat → Nat → Nat} {b b2 : Nat} {kc cm km mm : Int32} (h : tokR V b b2 kc cm km mm) : kc = 1 ↔ km = 0 := by
  have hw : ∀ i, i < 17 → ¬ nI (4 + i) = 1 ∧ ¬ nI (wdM i) = 0 := by decide
  have hs : ∀ c, c ≤ 126 → isS c = true → ¬ nI c = 1 ∧ ¬ nI c = 0 := by decide +kernel
  rcases h with ⟨h1, h2, -⟩ | ⟨i, hi, h1, h2, -⟩ | ⟨h1, h2, -⟩ | ⟨c, h1, h2, h3, h4, -⟩ | ⟨h1, h2, -⟩
  · rw [h1, h2]; decide
  · rw [h1, h2]; exact ⟨fun w => absurd w (hw i hi).1, fun w => absurd w (hw i hi).2⟩
  · rw [h1, h2]; decide
  · rw [h3, h4]; exact ⟨fun w => absurd w (hs c h2 h1).1, fun w => absurd w (hs c h2 h1).2⟩
  · rw [h1, h2]; decide
set_option maxHeartbeats 2000000 in
theorem cut_loop {N n n0 : Nat} {t : Nat → Nat} (hN : 300 ≤ N) : ∀ (d i p : Nat) (V : Nat → Nat → Nat) (kb : Nat → Nat) (σ τ : St) (mc mm : Nat), cutInv n n0 i p t V kb σ τ → n - p ≤ d → d < mc → d + 1 < mm →
    ∃ σ2 τ2 : St, J_Tokens_cut_10 N mc σ = some σ2 ∧ J_Mod_cut_12 N mm (nI i) (nI p) (nI (kb i)) 1 τ = some τ2 ∧ cutFrC σ σ2 ∧ cutFrM n0 τ τ2 ∧ cutEnd n n0 σ2 τ2 := by
  intro d
  induction d with
  | zero =>
    intro i p V kb σ τ mc mm hI hd hc hm
    obtain ⟨mc, rfl⟩ : ∃ k, mc = k + 1 := ⟨mc - 1, by omega⟩
    obtain ⟨mm, rfl⟩ : ∃ k, mm = k + 1 := ⟨mm - 1, by omega⟩
    refine cut_fin hN hI ?_
    have hpn : p ≤ n := hI.2.2.2.2.2.2.1
    rw [show n - p = 0 by omega, endP]
    omega
  | succ d ih =>
    intro i p V kb σ τ mc mm hI hd hc hm
    obtain ⟨mc, rfl⟩ : ∃ k, mc = k + 1 := ⟨mc - 1, by omega⟩
    obtain ⟨mm, rfl⟩ : ∃ k, mm = k + 1 := ⟨mm - 1, by omega⟩
    obtain ⟨hC, hM, hk, hi, hp, hip, hpn, hb0, hbi, hn0, hnb, hV, ht⟩ := id hI
    have hn := hC.1
    have hge := endP_ge isB t (n - p) p
    have hle := endP_le isB t (n - p) p
    by_cases hqn : endP isB t (n - p) p = n
    · exact cut_fin hN hI hqn
    generalize hq : endP isB t (n - p) p = q at hge hle hqn
    have hql : q < n := by omega
    -- the token
    obtain ⟨kc, km, mmn, e, kn2, σ2, τ2, V2, t1, t2, t3, t4, t5, t6, t7, t8, t9, t10, t11, t12, t13, t14, t15, t16, t17⟩ := pu_tok (N := N) (f := i) (kn := kb i) (V := V) (σ := sA (sF σ 3 (nI q)) 3 i (nI q)) (τ := τ) (by omega) hC hM hk rfl hql hi (by omega) (by omega) hV
    have hb := tokR_bad t17
    have h2i : σ2.1 2 = nI i := (t7 2 (by decide)).trans hi
    have hcC : J_Tokens_cut_10 N (mc + 1) σ = if kc = 0 then some (sA σ2 2 i kc) else if kc = 1 then some (sA σ2 2 i kc) else J_Tokens_cut_10 N mc (sF (sA σ2 2 i kc) 2 (nI (i + 1))) := by
      rw [J_Tokens_cut_10, hi, if_neg (show ¬ (48 : Int32) < nI i from nI_nlt (a := 48) (by omega) (by decide)), pu_blanks N p σ hC hp (by omega) (by omega), hq, pu_57 (σ := sF σ 3 (nI q)) hi rfl (by omega) t3 h2i]
    rw [if_neg t4] at hcC
    have hcM : J_Mod_cut_12 N (mm + 1) (nI i) (nI p) (nI (kb i)) 1 τ = if km = 0 then J_Mod_cut_12 N mm (nI (i + 1)) (nI e) (nI kn2) 0 (sA (sA (sA τ2 1 (1344 + i) km) 2 (1344 + i) mmn) 3 i (nI q)) else J_Mod_cut_12 N mm (nI (i + 1)) (nI e) (nI kn2) 1 (sA (sA (sA τ2 1 (1344 + i) km) 2 (1344 + i) mmn) 3 i (nI q)) := by
      rw [J_Mod_cut_12, if_neg (by decide), pu_mblanks hM N p (by omega) (by omega), hq, t5, pu_265 (by omega)]
    -- what the two states hold now
    generalize hσ3 : sA σ2 2 i kc = σ3 at hcC
    generalize hτ3 : sA (sA (sA τ2 1 (1344 + i) km) 2 (1344 + i) mmn) 3 i (nI q) = τ3 at hcM
    have s2 : ∀ j, σ3.2 2 j = if j = i then kc else σ.2 2 j := fun j => by
      rw [← hσ3, sA_at]
      by_cases z : j = i
      · rw [if_pos ⟨rfl, z⟩, if_pos z]
      · rw [if_neg (fun w => z w.2), if_neg z, t8 2 (by decide), sA_at, if_neg (fun w => by omega)]; rfl
    have s3 : ∀ j, σ3.2 3 j = if j = i then nI q else σ.2 3 j := fun j => by
      rw [← hσ3, sA_at, if_neg (fun w => by omega), t8 3 (by decide), sA_at]
      by_cases z : j = i
      · rw [if_pos ⟨rfl, z⟩, if_pos z]
      · rw [if_neg (fun w => z w.2), if_neg z]; rfl
    have s4 : ∀ j, j ≠ i → σ3.2 4 j = σ.2 4 j := fun j hj => by
      rw [← hσ3, sA_at, if_neg (fun w => by omega), t9 j hj, sA_at, if_neg (fun w => by omega)]; rfl
    have s4i : σ3.2 4 i = σ2.2 4 i := by rw [← hσ3, sA_at, if_neg (fun w => by omega)]
    have sfr : cutFrC σ σ3 := ⟨fun k _ a => by rw [← hσ3]; exact (t7 k a).trans (if_neg a), fun k a b c => by rw [← hσ3, sA_ne _ _ _ a, t8 k c, sA_ne _ _ _ b]; rfl⟩
    have u1 : ∀ x, τ3.2 1 x = if x = 1344 + i then km else τ.2 1 x := fun x => by
      rw [← hτ3, sA_at, if_neg (fun w => by omega), sA_at, if_neg (fun w => by omega), sA_at, t11 1 (by decide)]
      by_cases z : x = 1344 + i
      · rw [if_pos ⟨rfl, z⟩, if_pos z]
      · rw [if_neg (fun w => z w.2), if_neg z]
    have u2 : ∀ x, τ3.2 2 x = if x = 1344 + i then mmn else τ.2 2 x := fun x => by
      rw [← hτ3, sA_at, if_neg (fun w => by omega), sA_at]
      by_cases z : x = 1344 + i
      · rw [if_pos ⟨rfl, z⟩, if_pos z]
      · rw [if_neg (fun w => z w.2), if_neg z, sA_at, if_neg (fun w => by omega), t11 2 (by decide)]
    have u3 : ∀ x, τ3.2 3 x = if x = i then nI q else τ.2 3 x := fun x => by
      rw [← hτ3, sA_at]
      by_cases z : x = i
      · rw [if_pos ⟨rfl, z⟩, if_pos z]
      · rw [if_neg (fun w => z w.2), if_neg z, sA_at, if_neg (fun w => by omega), sA_at, if_neg (fun w => by omega), t11 3 (by decide)]
    have u6 : τ3.2 6 = τ2.2 6 := by rw [← hτ3, sA_ne _ _ _ (by decide), sA_ne _ _ _ (by decide), sA_ne _ _ _ (by decide)]
    have ufr : cutFrM n0 τ τ3 := ⟨fun k _ => by rw [← hτ3]; show τ2.1 k = _; rw [t10], fun k a b c d1 d2 => by rw [← hτ3, sA_ne _ _ _ c, sA_ne _ _ _ b, sA_ne _ _ _ a, t11 k d2], fun x hx => ⟨by rw [u1, if_neg (by omega)], by rw [u2, if_neg (by omega)]⟩, fun x _ => by rw [← hτ3, sA_ne _ _ _ (by decide), sA_ne _ _ _ (by decide), sA_ne _ _ _ (by decide), t11 4 (by decide)], fun x hx => by rw [u6, t12 x (by omega)]⟩
    -- the tokens up to and with this one
    have hkb : ∀ j, j ≤ i → (fun j => if j ≤ i then kb j else kn2) j = kb j := fun j hj => if_pos hj
    have hkb1 : (fun j => if j ≤ i then kb j else kn2) (i + 1) = kn2 := if_neg (by omega)
    have toks : ∀ (σ4 : St), σ4.2 = σ3.2 → ∀ j, j < i + 1 → tk V2 (fun j => if j ≤ i then kb j else kn2) σ4 τ3 j ∧ (fun j => if j ≤ i then kb j else kn2) (j + 1) ≤ kn2 := by
      intro σ4 h4 j hj
      unfold tk
      rw [h4]
      by_cases z : j = i
      · subst z
        rw [hkb j (Nat.le_refl _), hkb1, s2, if_pos rfl, s4i, u1, if_pos rfl, u2, if_pos rfl, s3, if_pos rfl, u3, if_pos rfl]
        exact ⟨⟨t17, rfl, q, by omega, rfl⟩, Nat.le_refl _⟩
      · obtain ⟨⟨a1, a2, a3⟩, a4, a5⟩ := ht j (by omega)
        rw [hkb j (by omega), hkb (j + 1) (by omega), s2, if_neg z, s4 j z, u1, if_neg (by omega), u2, if_neg (by omega), s3, if_neg z, u3, if_neg z]
        exact ⟨⟨a1.mono (fun k hk => t15 k (by omega)), a2, a3⟩, by omega⟩
    have rows : ∀ k, k < kn2 → (∀ j, V2 k j ≤ 26) ∧ rowIs (τ3.2 6) k (V2 k) := fun k hk => by rw [u6]; exact t16 k hk
    by_cases hbad : kc = 1
    · -- no token: both stop
      have hkm := hb.mp hbad
      rw [if_pos hbad] at hcC
      rw [if_pos hkm] at hcM
      obtain ⟨mm, rfl⟩ : ∃ k, mm = k + 1 := ⟨mm - 1, by omega⟩
      refine ⟨σ3, sF (sA τ3 4 28 (nI (i + 1))) 13 (nI kn2), hcC, ?_, sfr, ufr.tr ⟨fun k a => if_neg a, fun k _ _ _ a _ => sA_ne τ3 _ _ a, fun x _ => ⟨rfl, rfl⟩, fun x hx => ?_, fun x _ => rfl⟩, ?_⟩
      · rw [hcM, J_Mod_cut_12, if_pos rfl, pu_317]
      · show (sA τ3 4 28 (nI (i + 1))).2 4 x = _
        rw [sA_at, if_neg (fun w => hx w.2)]
      · refine ⟨i + 1, V2, fun j => if j ≤ i then kb j else kn2, by omega, (hkb 0 (by omega)).trans hb0, by rw [hkb1]; omega, by rw [hkb1]; omega, by rw [hkb1]; exact rows, fun j hj => ?_, ?_, by rw [hkb1]; rfl, Or.inl ⟨by omega, ?_, fun j hj => ?_⟩⟩
        · rw [hkb1]; exact toks σ3 rfl j hj
        · show (sA τ3 4 28 (nI (i + 1))).2 4 28 = _
          rw [sA_at, if_pos ⟨rfl, rfl⟩]
        · rw [show i + 1 - 1 = i by omega, s2, if_pos rfl, hbad]
        · rw [s2, if_neg (by omega)]
          exact (ht j (by omega)).2.2
    · -- on
      rw [if_neg hbad] at hcC
      rw [if_neg (fun w => hbad (hb.mpr w))] at hcM
      have hI2 : cutInv n n0 (i + 1) e t V2 (fun j => if j ≤ i then kb j else kn2) (sF σ3 2 (nI (i + 1))) τ3 := by
        refine ⟨⟨hn, ?_, fun j hj => ?_⟩, ⟨hn, ?_, fun j hj => ?_⟩, fun j hj => ?_, rfl, ?_, by omega, t2, (hkb 0 (by omega)).trans hb0, by rw [hkb1]; omega, hn0, by rw [hkb1]; omega, by rw [hkb1]; exact rows, fun j hj => ?_⟩
        · exact (sfr.1 1 (by decide) (by decide)).trans hC.2.1
        · rw [show (sF σ3 2 (nI (i + 1))).2 1 = σ.2 1 from sfr.2 1 (by decide) (by decide) (by decide)]
          exact hC.2.2 j hj
        · exact (ufr.1 0 (by decide)).trans hM.2.1
        · rw [ufr.2.1 0 (by decide) (by decide) (by decide) (by decide) (by decide)]
          exact hM.2.2 j hj
        · rw [show (sF σ3 2 (nI (i + 1))).2 0 = σ.2 0 from sfr.2 0 (by decide) (by decide) (by decide)]
          exact hk j hj
        · show σ3.1 3 = nI e
          rw [← hσ3]
          exact t6
        · rw [hkb1]
          obtain ⟨a, b⟩ := toks (sF σ3 2 (nI (i + 1))) rfl j hj
          refine ⟨a, b, ?_⟩
          show ¬ σ3.2 2 j = 1
          rw [s2]
          by_cases z : j = i
          · rw [if_pos z]; exact hbad
          · rw [if_neg z]; exact (ht j (by omega)).2.2
      obtain ⟨σ5, τ5, g1, g2, g3, g4, g5⟩ := ih (i + 1) e V2 _ _ _ mc mm hI2 (by omega) (by omega) (by omega)
      rw [if_neg (show ¬ i + 1 ≤ i by omega)] at g2
      exact ⟨σ5, τ5, hcC.trans g1, hcM.trans g2, sfr.tr (cutFrC.tr (b := sF σ3 2 (nI (i + 1))) ⟨fun k a _ => if_neg a, fun _ _ _ _ => rfl⟩ g3), ufr.tr g4, g5⟩
