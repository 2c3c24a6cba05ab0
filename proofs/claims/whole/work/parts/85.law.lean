/-! PURE ROWS 36: every call keeps what holds between the console and the reference. -/
theorem rel.text {σ τ σ2 τ2 : St} (h : rel σ τ) (ht : rT (σ2.1 1) (σ2.2 1) (τ2.1 0) (τ2.2 0)) (c : ∀ k, k ≠ 1 → σ2.1 k = σ.1 k) (ca : ∀ k, k ≠ 1 → σ2.2 k = σ.2 k) (m : ∀ k, k ≠ 0 → τ2.1 k = τ.1 k) (ma : ∀ k, k ≠ 0 → τ2.2 k = τ.2 k) : rel σ2 τ2 := by
  obtain ⟨-, g2, g3, g4, g5, ⟨n, p1, p2, p3, p4, p5⟩, ⟨e1, e2, e3, e4⟩, ⟨f1, f2, f3⟩, gh⟩ := h
  refine ⟨ht, ?_, ?_, ?_, ?_, ⟨n, p1, ?_, ?_, fun l hl => ?_, ?_⟩, ⟨?_, ?_, ?_, ?_⟩, ⟨?_, ?_, ?_⟩, ?_⟩
  · rw [c 4 (by decide), ca 5 (by decide), m 3 (by decide), ma 6 (by decide)]; exact g2
  · rw [ca 0 (by decide)]; exact g3
  · rw [c 0 (by decide), m 2 (by decide)]; exact g4
  · rw [c 17 (by decide), m 4 (by decide)]; exact g5
  · rw [c 16 (by decide)]; exact p2
  · rw [m 1 (by decide)]; exact p3
  · exact (p4 l hl).cg (by rw [ma 4 (by decide)]) (by rw [ma 5 (by decide)]) (fun j _ => ⟨by rw [ma 1 (by decide)], by rw [ma 2 (by decide)]⟩) (by rw [ca 12 (by decide)]) (by rw [ca 13 (by decide)]) (by rw [ca 14 (by decide)]) (fun j _ => ⟨by rw [ca 15 (by decide)], by rw [ca 16 (by decide)]⟩)
  · rw [c 17 (by decide), ca 12 (by decide), ca 17 (by decide), ma 8 (by decide)]; exact p5
  · rw [ca 19 (by decide), ma 7 (by decide)]; exact e1
  · rw [ca 20 (by decide), ma 9 (by decide)]; exact e2
  · rw [ca 22 (by decide), ma 10 (by decide)]; exact e3
  · rw [ca 23 (by decide), ma 11 (by decide)]; exact e4
  · rw [c 19 (by decide), m 5 (by decide)]; exact f1
  · rw [c 20 (by decide), m 6 (by decide)]; exact f2
  · rw [c 21 (by decide), m 7 (by decide)]; exact f3
  · rw [m 12 (by decide)]; exact gh
theorem law_feed {σ τ : St} {a : Int32} (h : rel σ τ) : ∃ (r : Int32) (σ2 τ2 : St), J_Con_feed 20000 a σ = some (r, σ2) ∧ J_Mod_feed 20000 a τ = some (r, τ2) ∧ rel σ2 τ2 := by
  obtain ⟨r, ⟨g1, g2⟩ | ⟨n, v, hn, g1, g2, g3⟩⟩ := pu_feed (N := 20000) (a := a) h.1
  · exact ⟨r, σ, τ, g1, g2, h⟩
  · refine ⟨r, _, _, g1, g2, h.text ?_ (fun k q => if_neg q) (fun k q => sA_ne _ _ _ q) (fun k q => if_neg q) (fun k q => sA_ne _ _ _ q)⟩
    show rT (nI (n + 1)) ((sA σ 1 n v).2 1) (nI (n + 1)) ((sA τ 0 n v).2 0)
    rw [sA_self, sA_self]
    exact g3
theorem law_seal {σ τ : St} (h : rel σ τ) : ∃ (r : Int32) (σ2 τ2 : St), J_Con_seal 20000 σ = some (r, σ2) ∧ J_Mod_seal 20000 τ = some (r, τ2) ∧ rel σ2 τ2 := by
  obtain ⟨g1, g2, g3, g4, g5, ⟨n, p1, p2, p3, p4, p5⟩, ⟨e1, e2, e3, e4⟩, ⟨f1, f2, f3⟩, gh⟩ := id h
  by_cases q : σ.1 17 = 0
  · obtain ⟨r, σ2, τ2, k1, k2, c, ca, m, ma, k3⟩ := pu_seal (N := 20000) (by decide) p1 p2 p3 (fun k hk => (p4 k hk).s) q (by rw [← g5]; exact q)
    refine ⟨r, σ2, τ2, k1, k2, ?_, ?_, ?_, ?_, ?_, ⟨n, p1, ?_, ?_, fun l hl => ?_, ?_⟩, ⟨?_, ?_, ?_, ?_⟩, ⟨?_, ?_, ?_⟩, ?_⟩
    · rw [c 1 (by decide) (by decide), ca 1 (by decide) (by decide), m 0 (by decide), ma 0 (by decide) (by decide)]; exact g1
    · rw [c 4 (by decide) (by decide), ca 5 (by decide) (by decide), m 3 (by decide), ma 6 (by decide) (by decide)]; exact g2
    · rw [ca 0 (by decide) (by decide)]; exact g3
    · rw [c 0 (by decide) (by decide), m 2 (by decide)]; exact g4
    · rcases k3 with ⟨z1, z2⟩ | ⟨z1, z2, -⟩
      · rw [z1, z2]
      · rw [z1, z2]
    · rw [c 16 (by decide) (by decide)]; exact p2
    · rw [m 1 (by decide)]; exact p3
    · exact (p4 l hl).cg (by rw [ma 4 (by decide) (by decide)]) (by rw [ma 5 (by decide) (by decide)]) (fun j _ => ⟨by rw [ma 1 (by decide) (by decide)], by rw [ma 2 (by decide) (by decide)]⟩) (by rw [ca 12 (by decide) (by decide)]) (by rw [ca 13 (by decide) (by decide)]) (by rw [ca 14 (by decide) (by decide)]) (fun j _ => ⟨by rw [ca 15 (by decide) (by decide)], by rw [ca 16 (by decide) (by decide)]⟩)
    · rcases k3 with ⟨z1, -⟩ | ⟨-, -, z⟩
      · exact Or.inl z1
      · exact Or.inr z
    · rw [ca 19 (by decide) (by decide), ma 7 (by decide) (by decide)]; exact e1
    · rw [ca 20 (by decide) (by decide), ma 9 (by decide) (by decide)]; exact e2
    · rw [ca 22 (by decide) (by decide), ma 10 (by decide) (by decide)]; exact e3
    · rw [ca 23 (by decide) (by decide), ma 11 (by decide) (by decide)]; exact e4
    · rw [c 19 (by decide) (by decide), m 5 (by decide)]; exact f1
    · rw [c 20 (by decide) (by decide), m 6 (by decide)]; exact f2
    · rw [c 21 (by decide) (by decide), m 7 (by decide)]; exact f3
    · rw [m 12 (by decide)]; exact gh
  · refine ⟨-1, σ, τ, ?_, ?_, h⟩
    · rw [J_Con_seal, if_neg q]
    · rw [J_Mod_seal, if_neg (by rw [← g5]; exact q)]
theorem law_restart {σ τ : St} (h : rel σ τ) : ∃ (r : Int32) (σ2 τ2 : St), J_Con_restart 20000 σ = some (r, σ2) ∧ J_Mod_restart 20000 τ = some (r, τ2) ∧ rel σ2 τ2 := by
  obtain ⟨g1, g2, g3, g4, g5, ⟨n, p1, p2, p3, p4, p5⟩, -, -, gh⟩ := id h
  have ca : ∀ k, k ≠ 19 → k ≠ 20 → k ≠ 22 → k ≠ 23 → (con_rs σ).2 k = σ.2 k := fun k a b c d => by
    show va_up (va_up (va_up (va_up σ.2 19 (fillF (σ.2 19) 0 12 0)) 20 (fillF (σ.2 20) 0 32 0)) 22 (fillF (σ.2 22) 0 256 0)) 23 (fillF (σ.2 23) 0 6 0) k = _
    rw [va_up_ne _ _ d, va_up_ne _ _ c, va_up_ne _ _ b, va_up_ne _ _ a]
  have c : ∀ k, k ≠ 19 → k ≠ 20 → k ≠ 21 → (con_rs σ).1 k = σ.1 k := fun k a b c => by
    show upd (upd (upd σ.1 19 1) 20 0) 21 0 k = _
    rw [pk_un c, pk_un b, pk_un a]
  have ma : ∀ k, k ≠ 7 → k ≠ 9 → k ≠ 10 → k ≠ 11 → (mod_rs τ).2 k = τ.2 k := fun k a b c d => by
    show va_up (va_up (va_up (va_up τ.2 7 (fillF (τ.2 7) 0 64 0)) 9 (fillF (τ.2 9) 0 32 0)) 10 (fillF (τ.2 10) 0 256 0)) 11 (fillF (τ.2 11) 0 6 0) k = _
    rw [va_up_ne _ _ d, va_up_ne _ _ c, va_up_ne _ _ b, va_up_ne _ _ a]
  have m : ∀ k, k ≠ 5 → k ≠ 6 → k ≠ 7 → (mod_rs τ).1 k = τ.1 k := fun k a b c => by
    show upd (upd (upd τ.1 5 1) 6 0) 7 0 k = _
    rw [pk_un c, pk_un b, pk_un a]
  refine ⟨0, con_rs σ, mod_rs τ, con_restart (by decide) σ, mod_restart (by decide) τ, ?_, ?_, ?_, ?_, ?_, ⟨n, p1, ?_, ?_, fun l hl => ?_, ?_⟩, ⟨fun k hk => ?_, fun k hk => ?_, fun k hk => ?_, fun k hk => ?_⟩, ⟨rfl, rfl, rfl⟩, ?_⟩
  · rw [c 1 (by decide) (by decide) (by decide), ca 1 (by decide) (by decide) (by decide) (by decide), m 0 (by decide) (by decide) (by decide), ma 0 (by decide) (by decide) (by decide) (by decide)]; exact g1
  · rw [c 4 (by decide) (by decide) (by decide), ca 5 (by decide) (by decide) (by decide) (by decide), m 3 (by decide) (by decide) (by decide), ma 6 (by decide) (by decide) (by decide) (by decide)]; exact g2
  · rw [ca 0 (by decide) (by decide) (by decide) (by decide)]; exact g3
  · rw [c 0 (by decide) (by decide) (by decide), m 2 (by decide) (by decide) (by decide)]; exact g4
  · rw [c 17 (by decide) (by decide) (by decide), m 4 (by decide) (by decide) (by decide)]; exact g5
  · rw [c 16 (by decide) (by decide) (by decide)]; exact p2
  · rw [m 1 (by decide) (by decide) (by decide)]; exact p3
  · exact (p4 l hl).cg (by rw [ma 4 (by decide) (by decide) (by decide) (by decide)]) (by rw [ma 5 (by decide) (by decide) (by decide) (by decide)]) (fun j _ => ⟨by rw [ma 1 (by decide) (by decide) (by decide) (by decide)], by rw [ma 2 (by decide) (by decide) (by decide) (by decide)]⟩) (by rw [ca 12 (by decide) (by decide) (by decide) (by decide)]) (by rw [ca 13 (by decide) (by decide) (by decide) (by decide)]) (by rw [ca 14 (by decide) (by decide) (by decide) (by decide)]) (fun j _ => ⟨by rw [ca 15 (by decide) (by decide) (by decide) (by decide)], by rw [ca 16 (by decide) (by decide) (by decide) (by decide)]⟩)
  · rw [c 17 (by decide) (by decide) (by decide), ca 12 (by decide) (by decide) (by decide) (by decide), ca 17 (by decide) (by decide) (by decide) (by decide), ma 8 (by decide) (by decide) (by decide) (by decide)]; exact p5
  · show va_up (va_up (va_up (va_up σ.2 19 (fillF (σ.2 19) 0 12 0)) 20 (fillF (σ.2 20) 0 32 0)) 22 (fillF (σ.2 22) 0 256 0)) 23 (fillF (σ.2 23) 0 6 0) 19 k = va_up (va_up (va_up (va_up τ.2 7 (fillF (τ.2 7) 0 64 0)) 9 (fillF (τ.2 9) 0 32 0)) 10 (fillF (τ.2 10) 0 256 0)) 11 (fillF (τ.2 11) 0 6 0) 7 k
    rw [va_up_ne _ _ (by decide), va_up_ne _ _ (by decide), va_up_ne _ _ (by decide), va_up_self, va_up_ne _ _ (by decide), va_up_ne _ _ (by decide), va_up_ne _ _ (by decide), va_up_self, fillF_in (Nat.zero_le _) hk, fillF_in (Nat.zero_le _) (by omega)]
  · show va_up (va_up (va_up (va_up σ.2 19 (fillF (σ.2 19) 0 12 0)) 20 (fillF (σ.2 20) 0 32 0)) 22 (fillF (σ.2 22) 0 256 0)) 23 (fillF (σ.2 23) 0 6 0) 20 k = va_up (va_up (va_up (va_up τ.2 7 (fillF (τ.2 7) 0 64 0)) 9 (fillF (τ.2 9) 0 32 0)) 10 (fillF (τ.2 10) 0 256 0)) 11 (fillF (τ.2 11) 0 6 0) 9 k
    rw [va_up_ne _ _ (by decide), va_up_ne _ _ (by decide), va_up_self, va_up_ne _ _ (by decide), va_up_ne _ _ (by decide), va_up_self, fillF_in (Nat.zero_le _) hk, fillF_in (Nat.zero_le _) hk]
  · show va_up (va_up (va_up (va_up σ.2 19 (fillF (σ.2 19) 0 12 0)) 20 (fillF (σ.2 20) 0 32 0)) 22 (fillF (σ.2 22) 0 256 0)) 23 (fillF (σ.2 23) 0 6 0) 22 k = va_up (va_up (va_up (va_up τ.2 7 (fillF (τ.2 7) 0 64 0)) 9 (fillF (τ.2 9) 0 32 0)) 10 (fillF (τ.2 10) 0 256 0)) 11 (fillF (τ.2 11) 0 6 0) 10 k
    rw [va_up_ne _ _ (by decide), va_up_self, va_up_ne _ _ (by decide), va_up_self, fillF_in (Nat.zero_le _) hk, fillF_in (Nat.zero_le _) hk]
  · show va_up (va_up (va_up (va_up σ.2 19 (fillF (σ.2 19) 0 12 0)) 20 (fillF (σ.2 20) 0 32 0)) 22 (fillF (σ.2 22) 0 256 0)) 23 (fillF (σ.2 23) 0 6 0) 23 k = va_up (va_up (va_up (va_up τ.2 7 (fillF (τ.2 7) 0 64 0)) 9 (fillF (τ.2 9) 0 32 0)) 10 (fillF (τ.2 10) 0 256 0)) 11 (fillF (τ.2 11) 0 6 0) 11 k
    rw [va_up_self, va_up_self, fillF_in (Nat.zero_le _) hk, fillF_in (Nat.zero_le _) hk]
  · rw [m 12 (by decide) (by decide) (by decide)]; exact gh
theorem law_ok : LawOK rel := by
  refine ⟨fun σ τ a h => ⟨20000, law_feed h⟩, fun σ τ h => ⟨20000, pu_add (by decide) h⟩, fun σ τ h => ⟨20000, σ.1 0, σ, τ, ?_, ?_, h⟩, fun σ τ h => ⟨20000, law_seal h⟩, fun σ τ a h => ⟨20000, pu_frame (by decide) h⟩, fun σ τ h => ⟨20000, law_restart h⟩, fun σ τ a b h => ?_, fun σ τ a h => ?_, fun σ τ a b h => ?_, fun σ τ a h => ?_, fun σ τ a h => ?_, fun σ τ a h => ?_⟩
  · rfl
  · obtain ⟨-, -, -, g4, -⟩ := h
    rw [g4]
    rfl
  · obtain ⟨r, k1, k2⟩ := pu_dot (N := 20000) (a := a) (b := b) h.2.2.2.2.2.2.1.2.2.1
    exact ⟨20000, r, σ, τ, k1, k2, h⟩
  · obtain ⟨n, h1, h2, h3, -⟩ := h.2.1
    obtain ⟨r, k1, k2⟩ := pu_value (N := 20000) (a := a) h1 h2 h3 h.2.2.2.2.2.2.1.1
    exact ⟨20000, r, σ, τ, k1, k2, h⟩
  · obtain ⟨r, k1, k2⟩ := pu_name (N := 20000) (a := a) (b := b) h.2.1
    exact ⟨20000, r, σ, τ, k1, k2, h⟩
  · obtain ⟨r, k1, k2⟩ := pu_cell (N := 20000) (a := a) h.2.2.2.2.2.2.1.2.1
    exact ⟨20000, r, σ, τ, k1, k2, h⟩
  · obtain ⟨n, p1, p2, p3, p4, -⟩ := h.2.2.2.2.2.1
    obtain ⟨r, k1, k2⟩ := pu_nodes (N := 20000) (a := a) p1 p2 p3 (fun k hk => by
      obtain ⟨kk, vv, ts, E, y1, y2, y3, y4, y5, y6, y7, y8, z1, z2, y9⟩ := p4 k hk
      rw [z1, z2])
    exact ⟨20000, r, σ, τ, k1, k2, h⟩
  · obtain ⟨g1, g2, g3, g4, g5, ⟨n, p1, p2, p3, p4, p5⟩, gE, ⟨f1, f2, f3⟩, gh⟩ := id h
    obtain ⟨t, t1, t2, t3, -⟩ := g1
    obtain ⟨n0, n1, n2, n3, -⟩ := g2
    obtain ⟨r, k1, k2⟩ := pu_count (N := 20000) (a := a) (p2.trans p3.symm) (t2.trans t3.symm) (n2.trans n3.symm) f2 f3 g5
    exact ⟨20000, r, σ, τ, k1, k2, h⟩
theorem law_init (f : Nat → Int32) (hf : ∀ j, j < 17 → f j = tKEYS j) : rel (con_0 f) mod_0 := by
  have z : ∀ k, k ≠ 0 → (con_0 f).2 k = fun _ => 0 := fun k q => by
    show va_up (fun _ _ => (0 : Int32)) 0 f k = _
    rw [va_up_ne _ _ q]
  refine ⟨?_, ?_, fun j hj => ?_, rfl, rfl, ⟨0, by omega, rfl, rfl, fun l hl => by omega, Or.inl rfl⟩, ⟨fun k _ => ?_, fun k _ => ?_, fun k _ => ?_, fun k _ => ?_⟩, ⟨rfl, rfl, rfl⟩, 0, by omega, rfl⟩
  · exact rT_nil
  · exact ⟨0, by omega, rfl, rfl, fun k hk => by omega⟩
  · show va_up (fun _ _ => 0) 0 f 0 j = _
    rw [va_up_self]
    exact hf j hj
  · rw [z 19 (by decide)]; rfl
  · rw [z 20 (by decide)]; rfl
  · rw [z 22 (by decide)]; rfl
  · rw [z 23 (by decide)]; rfl
