theorem aw_conv {τ1 τ2 : Type} {x : ax_X} {μ : ax_M} {A : Nat → Prop} {kk : Nat × Nat} {Q : State → Prop} {pc : Nat} {lv : List (Nat × Value)} {st : List Value} {w1 : τ1 → va_W} {w2 : τ2 → va_W} {σ1 : τ1} {σ2 : τ2} {g g2 : ax_G} (hg1 : g2.1 = g.1) (hg2 : g2.2.2 = g.2.2) (h : w1 σ1 = w2 σ2) (k : AW x μ g2 A w2 kk Q pc lv st σ2) : AW x μ g A w1 kk Q pc lv st σ1 := by
  obtain ⟨p, l, e, R, s, m, args, below, meth, c⟩ := x
  obtain ⟨cc, nL, own, ret, d⟩ := μ
  obtain ⟨D, a, r⟩ := g
  obtain ⟨D2, a2, r2⟩ := g2
  have hg1 : D2 = D := hg1
  have hg2 : r2 = r := hg2
  subst hg1
  subst hg2
  intro hC hkk H locs ls hP hD hS hl
  exact k hC hkk H locs ls (h ▸ hP) (h ▸ hD) hS hl
