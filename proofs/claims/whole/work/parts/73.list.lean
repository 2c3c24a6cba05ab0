/-! PURE ROWS 24: a cut text's tokens as one list. -/
theorem row_eq {nt nt2 : Nat → Int32} {k : Nat} {v w : Nat → Nat} (hv : ∀ j, v j ≤ 26) (hw : ∀ j, w j ≤ 26) (h1 : rowIs nt k v) (h2 : rowIs nt2 k w) (he : ∀ x, x < 6 * (k + 1) → nt2 x = nt x) : ∀ j, j < 6 → w j = v j := by
  intro j hj
  have a := h1 j hj
  have b := h2 j hj
  rw [he _ (by omega), a] at b
  exact ((pu_cell6 (hv j) (hw j)).mp b).symm
theorem enc_eq {v w : Nat → Nat} (h : ∀ j, j < 6 → w j = v j) : encW w = encW v := by
  unfold encW
  rw [h 0 (by decide), h 1 (by decide), h 2 (by decide), h 3 (by decide), h 4 (by decide), h 5 (by decide)]
theorem tokR.tok {V : Nat → Nat → Nat} {b b2 : Nat} {kc cm km mm : Int32} (h : tokR V b b2 kc cm km mm) : ∃ t : Nat × Int32, okk t.1 = true ∧ kc = nI t.1 ∧ km = nI (kM t.1) ∧ (t.1 = 2 ∨ t.1 = 3 → mm = t.2) ∧ (t.1 = 2 → cm = t.2) ∧ (t.1 = 3 → nmR V b b2 cm t.2 ∧ ∃ id : Nat, id < b2 ∧ t.2 = nI id) ∧ (t.1 ≠ 3 → b2 = b) := by
  have hw : ∀ i, i < 17 → okk (4 + i) = true ∧ wdM i = kM (4 + i) := by decide
  have hs : ∀ c, c ≤ 126 → isS c = true → okk c = true ∧ kM c = c ∧ 20 < c := by decide +kernel
  rcases h with ⟨h1, h2, h3, h4⟩ | ⟨i, hi, h1, h2, h3⟩ | ⟨h1, h2, id, h3, h4, h5, h6, h7⟩ | ⟨c, h1, h2, h3, h4, h5⟩ | ⟨h1, h2, h3⟩
  · exact ⟨(2, mm), (show okk 2 = true by decide), h1, h2.trans (show (1 : Int32) = nI (kM 2) by decide), fun _ => rfl, fun _ => h3, fun w => absurd (show 2 = 3 from w) (by decide), fun _ => h4⟩
  · refine ⟨(4 + i, 0), (hw i hi).1, h1, by rw [h2, (hw i hi).2], fun w => ?_, fun w => ?_, fun w => ?_, fun _ => h3⟩
    · have w : 4 + i = 2 ∨ 4 + i = 3 := w
      omega
    · have w : 4 + i = 2 := w
      omega
    · have w : 4 + i = 3 := w
      omega
  · exact ⟨(3, mm), (show okk 3 = true by decide), h1, h2.trans (show (2 : Int32) = nI (kM 3) by decide), fun _ => rfl, fun w => absurd (show 3 = 2 from w) (by decide), fun _ => ⟨⟨id, h3, h4, h6, h7⟩, id, h5, h3⟩, fun w => absurd rfl w⟩
  · obtain ⟨a1, a2, a3⟩ := hs c h2 h1
    refine ⟨(c, 0), a1, h3, by rw [h4]; show nI c = nI (kM c); rw [a2], fun w => ?_, fun w => ?_, fun w => ?_, fun _ => h5⟩
    · have w : c = 2 ∨ c = 3 := w
      omega
    · have w : c = 2 := w
      omega
    · have w : c = 3 := w
      omega
  · exact ⟨(1, 0), (show okk 1 = true by decide), h1, h2.trans (show (0 : Int32) = nI (kM 1) by decide), fun w => absurd (show 1 = 2 ∨ 1 = 3 from w) (by decide), fun w => absurd (show 1 = 2 from w) (by decide), fun w => absurd (show 1 = 3 from w) (by decide), fun _ => h3⟩
theorem tk_list {T : Nat} {V : Nat → Nat → Nat} {kb : Nat → Nat} {σ τ : St} (ht : ∀ j, j < T → tk V kb σ τ j ∧ kb (j + 1) ≤ kb T) (hne : ∀ j, j + 1 < T → ¬ σ.2 2 j = 1) (hz : 1 ≤ T → ¬ σ.2 2 (T - 1) = 1 → σ.2 2 T = 0) : ∀ d j, j + d = T → (d = 0 → σ.2 2 T = 0) → ∃ ts : List (Nat × Int32), ts.length = d ∧ tkC V (kb T) σ j (kb j) ts ∧ tkM τ (1344 + j) ts ∧ (∀ t, t ∈ ts → t.1 = 3 → ∃ id : Nat, id < kb T ∧ t.2 = nI id) ∧ (1 ≤ d → σ.2 2 (T - 1) = 1 → ∃ ts0 v, ts = ts0 ++ [(1, v)]) := by
  intro d
  induction d with
  | zero =>
    intro j hj h0
    have hj : j = T := hj
    subst hj
    exact ⟨[], rfl, ⟨rfl, h0 rfl⟩, trivial, fun t ht => absurd ht (by simp), fun h => by omega⟩
  | succ d ih =>
    intro j hj _
    obtain ⟨⟨a1, -, -⟩, a4⟩ := ht j (by omega)
    obtain ⟨t, b1, b2, b3, b4, b5, b6, b7⟩ := a1.tok
    by_cases bad : t.1 = 1
    · have hd : d = 0 := Decidable.byContradiction (fun w => hne j (by omega) (by rw [b2, bad]; rfl))
      subst hd
      exact ⟨[t], rfl, ⟨b1, b2, Or.inl bad⟩, ⟨b1, b3, b4, trivial⟩, fun u hu e => by
        have : u = t := by simpa using hu
        rw [this] at e
        omega, fun _ _ => ⟨[], t.2, by rw [← bad]; rfl⟩⟩
    · have nb1 : ¬ σ.2 2 j = 1 := fun w => bad ((kne (c := 1) (okk_lt b1) (by decide)).mp (b2.symm.trans w))
      obtain ⟨ts, c1, c2, c3, c4, c5⟩ := ih (j + 1) (by omega) (fun d0 => hz (by omega) (by rw [show T - 1 = j by omega]; exact nb1))
      refine ⟨t :: ts, by rw [List.length_cons, c1], ⟨b1, b2, Or.inr ⟨kb (j + 1), b5, fun w => (b6 w).1, b7, c2⟩⟩, ⟨b1, b3, b4, c3⟩, fun u hu e => ?_, fun _ e => ?_⟩
      · rcases List.mem_cons.mp hu with w | w
        · subst w
          obtain ⟨id, g1, g2⟩ := (b6 e).2
          exact ⟨id, by omega, g2⟩
        · exact c4 u w e
      · by_cases d0 : d = 0
        · rw [show T - 1 = j by omega] at e
          exact absurd e nb1
        · obtain ⟨ts0, v, g⟩ := c5 (by omega) e
          exact ⟨t :: ts0, v, by rw [g]; rfl⟩
theorem nmO_of {b : Nat} (hb : b ≤ 64) : ∀ ts : List (Nat × Int32), (∀ t, t ∈ ts → t.1 = 3 → ∃ id : Nat, id < b ∧ t.2 = nI id) → nmO ts := by
  intro ts
  induction ts with
  | nil => intro _; exact trivial
  | cons t ts ih =>
    intro h
    refine ⟨fun e => ?_, ih (fun u hu => h u (List.mem_cons_of_mem _ hu))⟩
    obtain ⟨id, g1, g2⟩ := h t (by simp) e
    exact ⟨id, by omega, g2⟩
/-- what a cut text is, on both sides -/
def cutS (n n0 : Nat) (V0 V : Nat → Nat → Nat) (B : Nat) (ts : List (Nat × Int32)) (σ τ : St) : Prop :=
  ts.length ≤ 48 ∧ n0 ≤ B ∧ B ≤ n0 + ts.length ∧ (∀ k j, V k j ≤ 26) ∧ (∀ k, k < B → rowIs (τ.2 6) k (V k)) ∧ (∀ k, k < n0 → encW (V k) = encW (V0 k)) ∧ tkC V B σ 0 n0 ts ∧ tkM τ 1344 ts ∧ (∀ t, t ∈ ts → t.1 = 3 → ∃ id : Nat, id < B ∧ t.2 = nI id) ∧ τ.2 4 28 = nI ts.length ∧ τ.1 13 = nI B ∧ (∀ j, j < ts.length → σ.2 3 j = τ.2 3 j) ∧ ((∃ ts0 v, ts = ts0 ++ [(1, v)]) ∨ σ.2 3 ts.length = nI n)
theorem pu_cut {N n n0 : Nat} {t : Nat → Nat} {V0 : Nat → Nat → Nat} {σ τ : St} (hN : 300 ≤ N) (hC : tC σ n t) (hM : tM τ n t) (hk : ∀ j, j < 17 → σ.2 0 j = tKEYS j) (hn0 : n0 ≤ 12) (h3 : τ.1 3 = nI n0) (hV : ∀ k, k < n0 → (∀ j, V0 k j ≤ 26) ∧ rowIs (τ.2 6) k (V0 k)) : ∃ (σ2 τ2 : St) (V : Nat → Nat → Nat) (B : Nat) (ts : List (Nat × Int32)), J_Tokens_cut N σ = some σ2 ∧ J_Mod_cut N τ = some τ2 ∧ cutFrC σ σ2 ∧ cutFrM n0 τ τ2 ∧ cutS n n0 V0 V B ts σ2 τ2 := by
  have hn := hC.1
  have hI : cutInv n n0 0 0 t V0 (fun _ => n0) (sF (sF σ 3 0) 2 0) τ := ⟨hC, hM, hk, rfl, rfl, Nat.le_refl _, Nat.zero_le _, rfl, Nat.le_refl _, hn0, Nat.le_refl _, hV, fun j hj => by omega⟩
  obtain ⟨σ2, τ2, g1, g2, g3, g4, T, V, kb, e1, e2, e3, e4, e5, e6, e7, e8, e9⟩ := cut_loop hN n 0 0 V0 (fun _ => n0) (sF (sF σ 3 0) 2 0) τ N N hI (by omega) (by omega) (by omega)
  have g1 : J_Tokens_cut N σ = some σ2 := by
    rw [J_Tokens_cut, ax_let, ax_let]
    exact g1
  have g2 : J_Mod_cut N τ = some τ2 := by
    rw [J_Mod_cut, h3, ax_let]
    exact g2
  have fr : cutFrC σ σ2 := cutFrC.tr (b := sF (sF σ 3 0) 2 0) ⟨fun k a b => by show upd (upd σ.1 3 0) 2 0 k = _; rw [pk_un a, pk_un b], fun _ _ _ _ => rfl⟩ g3
  -- the names' letters, nothing behind the last
  have mono : ∀ j, j < T → tk (fun k => if k < kb T then V k else fun _ => 0) kb σ2 τ2 j ∧ kb (j + 1) ≤ kb T := by
    intro j hj
    obtain ⟨⟨a1, a2⟩, a3⟩ := e6 j hj
    exact ⟨⟨a1.mono (fun k hk => if_pos (by omega)), a2⟩, a3⟩
  have hne : ∀ j, j + 1 < T → ¬ σ2.2 2 j = 1 := by
    intro j hj
    rcases e9 with ⟨-, -, z⟩ | ⟨-, -, z⟩
    · exact z j (by omega)
    · exact z j (by omega)
  have hz : 1 ≤ T → ¬ σ2.2 2 (T - 1) = 1 → σ2.2 2 T = 0 := by
    intro _ w
    rcases e9 with ⟨-, z, -⟩ | ⟨z, -, -⟩
    · exact absurd z w
    · exact z
  have h0 : T = 0 → σ2.2 2 T = 0 := by
    intro w
    rcases e9 with ⟨z, -, -⟩ | ⟨z, -, -⟩
    · omega
    · exact z
  obtain ⟨ts, l1, l2, l3, l4, l5⟩ := tk_list mono hne hz T 0 (Nat.zero_add _) h0
  have l2 : tkC (fun k => if k < kb T then V k else fun _ => 0) (kb T) σ2 0 n0 ts := by
    rw [← e2]
    exact l2
  refine ⟨σ2, τ2, fun k => if k < kb T then V k else fun _ => 0, kb T, ts, g1, g2, fr, g4, by omega, e3, by omega, fun k j => ?_, fun k hk => ?_, fun k hk => ?_, l2, l3, l4, by rw [l1]; exact e7, e8, fun j hj => (e6 j (by omega)).1.2.1, ?_⟩
  · show (if k < kb T then V k else fun _ => 0) j ≤ 26
    by_cases q : k < kb T
    · rw [if_pos q]
      exact (e5 k q).1 j
    · rw [if_neg q]
      exact Nat.zero_le _
  · show rowIs (τ2.2 6) k (if k < kb T then V k else fun _ => 0)
    rw [if_pos hk]
    exact (e5 k hk).2
  · show encW (if k < kb T then V k else fun _ => 0) = _
    rw [if_pos (by omega)]
    exact enc_eq (row_eq (hV k hk).1 (e5 k (by omega)).1 (hV k hk).2 (e5 k (by omega)).2 (fun x hx => g4.2.2.2.2 x (by omega)))
  · rcases e9 with ⟨z1, z2, -⟩ | ⟨-, z2, -⟩
    · exact Or.inl (l5 z1 z2)
    · exact Or.inr (by rw [l1]; exact z2)
