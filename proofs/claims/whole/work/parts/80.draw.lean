/-! PURE ROWS 31: what is drawn, on both sides. -/
def dFr (a : Nat) (σ σ2 : St) : Prop := σ2.1 = σ.1 ∧ ∀ k, k ≠ a → σ2.2 k = σ.2 k
theorem dFr.rf (a : Nat) (σ : St) : dFr a σ σ := ⟨rfl, fun _ _ => rfl⟩
theorem dFr.tr {a : Nat} {x y z : St} (h : dFr a x y) (h2 : dFr a y z) : dFr a x z := ⟨h2.1.trans h.1, fun k q => (h2.2 k q).trans (h.2 k q)⟩
theorem dFr.s (a : Nat) (σ : St) (i : Nat) (v : Int32) : dFr a σ (sA σ a i v) := ⟨rfl, fun _ h => sA_ne _ _ _ h⟩
def dEq (σ τ : St) : Prop := ∀ k, k < 256 → σ.2 22 k = τ.2 10 k
def pR (σ τ : St) (J K : Option St) : Prop := ∃ (σ2 τ2 : St), J = some σ2 ∧ K = some τ2 ∧ dFr 22 σ σ2 ∧ dFr 10 τ τ2 ∧ dEq σ2 τ2
theorem pu_paint2 {N : Nat} {a b c : Int32} {σ τ : St} (h : dEq σ τ) : pR σ τ (J_Screen_paint N a b c σ) (J_Mod_paint N a b c 1 τ) := by
  have hin : J_Screen_isInside N a b σ = some (if insF a b = true then 1 else 0, σ) := pu_seen (N := N) (τ := σ)
  unfold pR
  rw [J_Screen_paint, hin, ax_bs, J_Mod_paint, if_neg (show ¬ (1 : Int32) = 0 by decide), pu_seen, ax_bs]
  by_cases q : insF a b = true
  · obtain ⟨i, j, hi, hj, rfl, rfl⟩ := insF_ix q
    rw [if_pos q, if_neg (show ¬ (1 : Int32) = 0 by decide), if_neg (show ¬ (1 : Int32) = 0 by decide), pu_ix1 hi hj, pu_ix2 hi hj, if_pos (pu_inB (by omega) (by decide)), if_pos (pu_inB (by omega) (by decide)), nI_clamp (by omega), ax_let, ax_let]
    refine ⟨_, _, rfl, rfl, dFr.s _ _ _ _, dFr.s _ _ _ _, fun k hk => ?_⟩
    rw [sA_self, sA_self]
    by_cases z : k = 16 * j + i
    · rw [z, pk_us, pk_us]
    · rw [pk_un z, pk_un z]
      exact h k hk
  · rw [if_neg q, if_pos (show (0 : Int32) = 0 from rfl), if_pos (show (0 : Int32) = 0 from rfl)]
    exact ⟨_, _, rfl, rfl, dFr.rf _ _, dFr.rf _ _, h⟩
theorem tI_of {x : Int32} {a : Int} (h : x.toInt = a) (h1 : 0 ≤ a) : ∃ n : Nat, (n : Int) = a ∧ n < 2 ^ 31 ∧ x = nI n := by
  have hl := Int32.toInt_lt x
  refine ⟨a.toNat, by omega, by omega, Int32.toInt_inj.mp ?_⟩
  rw [nI_toInt (by omega), h]
  omega
theorem div_up {m d : Nat} (hd : 1 ≤ d) : (d - 1 + m) / d = if m / d * d = m then m / d else m / d + 1 := by
  have h1 := Nat.div_add_mod m d
  have h2 := Nat.mod_lt m (show 0 < d by omega)
  have e : d - 1 + m = (d - 1 + m % d) + d * (m / d) := by omega
  rw [Nat.mul_comm (m / d) d]
  by_cases q : m % d = 0
  · rw [if_pos (by omega), e, Nat.add_mul_div_left _ _ (by omega), q, Nat.div_eq_of_lt (by omega), Nat.zero_add]
  · have : (d - 1 + m % d) / d = 1 := Nat.div_eq_of_lt_le (by omega) (by omega)
    rw [if_neg (by omega), e, Nat.add_mul_div_left _ _ (by omega), this, Nat.add_comm]
theorem pu_flo {N d : Nat} {a : Int32} (hd : 1 ≤ d) (hd2 : d ≤ 1000) (h1 : -10000 ≤ a.toInt) (h2 : a.toInt ≤ 10000) : ∃ r : Int32, (∀ σ : St, J_CMath_floorDiv N a (nI d) σ = some (r, σ)) ∧ ∀ τ : St, J_Mod_floor N a (nI d) τ = some (r, τ) := by
  have hz : ¬ nI d = 0 := nI_ne0 (by omega) (by omega)
  have hp : 0 ≤ nI d := nI_pos' (by omega)
  have ht : (nI d).toInt = d := nI_toInt (by omega)
  by_cases q : a < 0
  · have q0 : ¬ 0 ≤ a := fun w => by
      rw [Int32.lt_iff_toInt_lt] at q
      rw [Int32.le_iff_toInt_le] at w
      omega
    have hA : a.toInt < 0 := by rw [Int32.lt_iff_toInt_lt] at q; exact q
    obtain ⟨m, hm, hm2, e⟩ := tI_of (x := -a) (a := -a.toInt) (by rw [Int32.toInt_neg, bm32 (by omega) (by omega)]) (by omega)
    have ea : a = -nI m := by rw [← e, Int32.neg_neg]
    have hx : ¬ 0 ≤ (a ^^^ nI d) := fun w => q0 (((xor_sgn a (nI d)).mp w).mpr hp)
    have v1 : a / nI d = -nI (m / d) := by
      have hle : m / d ≤ m := Nat.div_le_self m d
      refine Int32.toInt_inj.mp ?_
      rw [Int32.toInt_div, ht, show a.toInt = -(m : Int) by omega, Int.neg_tdiv, Int.tdiv_eq_ediv_of_nonneg (by omega), Int32.toInt_neg, nI_toInt (by omega), ← Int.natCast_ediv]
    have v2 : -nI (m / d) * nI d = a ↔ m / d * d = m := by
      rw [Int32.neg_mul, pk_mul, ea]
      constructor
      · intro w
        have w := congrArg (fun z => -z) w
        simp only [Int32.neg_neg] at w
        have hle : m / d * d ≤ m := Nat.div_mul_le_self m d
        exact (nI_eq (by omega) (by omega)).mp w
      · intro w
        rw [w]
    have v3 : nI d - 1 - a = nI (d - 1 + m) := by
      rw [show nI d - 1 = nI (d - 1) from pk_sub (b := 1) hd, ea, Int32.sub_eq_add_neg, Int32.neg_neg, nI_add]
    have v4 : -nI (m / d) - 1 = -nI (m / d + 1) := by
      rw [← nI_1, Int32.neg_add, Int32.sub_eq_add_neg]
    refine ⟨-nI ((d - 1 + m) / d), fun σ => ?_, fun τ => ?_⟩
    · rw [J_CMath_floorDiv, if_neg hz, ax_let, if_neg hx, v1, div_up hd]
      by_cases z : m / d * d = m
      · rw [if_pos (v2.mpr z), if_pos z]
      · rw [if_neg (fun w => z (v2.mp w)), if_neg z, v4]
    · rw [J_Mod_floor, if_pos q, if_neg hz, v3, pk_div (by omega) (by omega) (by omega)]
  · have q0 : 0 ≤ a := by
      rw [Int32.lt_iff_toInt_lt] at q
      rw [Int32.le_iff_toInt_le]
      omega
    refine ⟨a / nI d, fun σ => ?_, fun τ => ?_⟩
    · rw [J_CMath_floorDiv, if_neg hz, ax_let, if_pos ((xor_sgn a (nI d)).mpr ⟨fun _ => hp, fun _ => q0⟩)]
    · rw [J_Mod_floor, if_neg q, if_neg hz]
theorem step_b {i n : Nat} {x : Int32} (hi : i ≤ 40) (hn : n ≤ 40) (h1 : -40 ≤ x.toInt) (h2 : x.toInt ≤ 40) : -10000 ≤ (2 * (nI i * x) + nI n).toInt ∧ (2 * (nI i * x) + nI n).toInt ≤ 10000 := by
  have hb : ((i : Int) * x.toInt).natAbs ≤ 40 * 40 := by
    rw [Int.natAbs_mul]
    exact Nat.mul_le_mul (by omega) (by omega)
  have e1 : (nI i * x).toInt = (i : Int) * x.toInt := by
    rw [Int32.toInt_mul, nI_toInt (by omega), bm32 (by omega) (by omega)]
  have e2 : (2 * (nI i * x)).toInt = 2 * ((i : Int) * x.toInt) := by
    rw [Int32.toInt_mul, e1, show (2 : Int32).toInt = 2 from rfl, bm32 (by omega) (by omega)]
  have e3 : (2 * (nI i * x) + nI n).toInt = 2 * ((i : Int) * x.toInt) + n := by
    rw [Int32.toInt_add, e2, nI_toInt (by omega), bm32 (by omega) (by omega)]
  omega
theorem pu_stk {N n : Nat} {x0 y0 x1 y1 c : Int32} (hn : 1 ≤ n) (hn2 : n ≤ 40) (hx1 : -40 ≤ (x1 - x0).toInt) (hx2 : (x1 - x0).toInt ≤ 40) (hy1 : -40 ≤ (y1 - y0).toInt) (hy2 : (y1 - y0).toInt ≤ 40) : ∀ (d i : Nat) (σ τ : St) (f g : Nat), i + d = n + 1 → dEq σ τ → d < f → d < g → pR σ τ (J_Screen_paintLine_29 N f x0 y0 x1 y1 c (nI n) (nI i) σ) (J_Mod_stroke_82 N g x0 y0 c (x1 - x0) (y1 - y0) (nI n) (nI i) τ) := by
  intro d
  induction d with
  | zero =>
    intro i σ τ f g hi hd hf hg
    obtain ⟨f, rfl⟩ : ∃ k, f = k + 1 := ⟨f - 1, by omega⟩
    obtain ⟨g, rfl⟩ : ∃ k, g = k + 1 := ⟨g - 1, by omega⟩
    unfold pR
    rw [J_Screen_paintLine_29, J_Mod_stroke_82, if_pos (nI_lt (by omega) (by omega)), if_pos (nI_lt (by omega) (by omega))]
    exact ⟨σ, τ, rfl, rfl, dFr.rf _ _, dFr.rf _ _, hd⟩
  | succ d ih =>
    intro i σ τ f g hi hd hf hg
    obtain ⟨f, rfl⟩ : ∃ k, f = k + 1 := ⟨f - 1, by omega⟩
    obtain ⟨g, rfl⟩ : ∃ k, g = k + 1 := ⟨g - 1, by omega⟩
    have e2 : 2 * nI n = nI (2 * n) := by rw [show (2 : Int32) = nI 2 from rfl, pk_mul]
    obtain ⟨bx1, bx2⟩ := step_b (i := i) (n := n) (by omega) hn2 hx1 hx2
    obtain ⟨by1, by2⟩ := step_b (i := i) (n := n) (by omega) hn2 hy1 hy2
    obtain ⟨rx, ax1, ax2⟩ := pu_flo (N := N) (d := 2 * n) (by omega) (by omega) bx1 bx2
    obtain ⟨ry, ay1, ay2⟩ := pu_flo (N := N) (d := 2 * n) (by omega) (by omega) by1 by2
    have hz : ¬ nI n = 0 := nI_ne0 (by omega) (by omega)
    have rnd : ∀ (u : Int32) (r : Int32) (s : St), (∀ σ : St, J_CMath_floorDiv N (2 * u + nI n) (nI (2 * n)) σ = some (r, σ)) → J_Screen_rounded N u (nI n) s = some (r, s) := by
      intro u r s h
      rw [J_Screen_rounded, if_neg hz, e2, h s, ax_bs]
    obtain ⟨σ2, τ2, p1, p2, p3, p4, p5⟩ := pu_paint2 (N := N) (a := x0 + rx) (b := y0 + ry) (c := c) hd
    obtain ⟨σ3, τ3, q1, q2, q3, q4, q5⟩ := ih (i + 1) σ2 τ2 f g (by omega) p5 (by omega) (by omega)
    refine ⟨σ3, τ3, ?_, ?_, p3.tr q3, p4.tr q4, q5⟩
    · rw [J_Screen_paintLine_29, if_neg (nI_nlt (by omega) (by omega)), rnd _ rx σ ax1, ax_bs, rnd _ ry σ ay1, ax_bs, p1, ax_bsV, nI_1, ax_let]
      exact q1
    · rw [J_Mod_stroke_82, if_neg (nI_nlt (by omega) (by omega)), if_neg (nI_nle (by omega) (by omega)), Int32.mul_assoc, e2, ax2 τ, ax_bs, Int32.mul_assoc, ay2 τ, ax_bs, p2, ax_bsV, nI_1, ax_let]
      exact q2
def abI (v : Int32) : Int32 := if 0 ≤ v then v else -v
theorem abI_t {v : Int32} (h1 : -100000 ≤ v.toInt) (h2 : v.toInt ≤ 100000) : (abI v).toInt = if 0 ≤ v.toInt then v.toInt else -v.toInt := by
  unfold abI
  by_cases q : 0 ≤ v
  · rw [if_pos q, if_pos (by rw [Int32.le_iff_toInt_le] at q; exact q)]
  · rw [if_neg q, if_neg (fun w => q (by rw [Int32.le_iff_toInt_le]; exact w)), Int32.toInt_neg, bm32 (by omega) (by omega)]
theorem sub_t {a b : Int32} (a1 : -32768 ≤ a.toInt) (a2 : a.toInt ≤ 32767) (b1 : -32768 ≤ b.toInt) (b2 : b.toInt ≤ 32767) : (a - b).toInt = a.toInt - b.toInt := by
  rw [Int32.toInt_sub, bm32 (by omega) (by omega)]
def cIn (x : Int32) : Prop := -32768 ≤ x.toInt ∧ x.toInt ≤ 32767
theorem pu_line {N : Nat} {x0 y0 x1 y1 c : Int32} {σ τ : St} (hN1 : 100 ≤ N) (hx0 : cIn x0) (hy0 : cIn y0) (hx1 : cIn x1) (hy1 : cIn y1) (h : dEq σ τ) : pR σ τ (J_Screen_paintLine N x0 y0 x1 y1 c σ) (J_Mod_stroke N x0 y0 x1 y1 c τ) := by
  obtain ⟨a1, a2⟩ := hx0
  obtain ⟨a3, a4⟩ := hy0
  obtain ⟨a5, a6⟩ := hx1
  obtain ⟨a7, a8⟩ := hy1
  have ex := sub_t a5 a6 a1 a2
  have ey := sub_t a7 a8 a3 a4
  have ax := abI_t (v := x1 - x0) (by omega) (by omega)
  have ay := abI_t (v := y1 - y0) (by omega) (by omega)
  have cC : J_Screen_paintLine N x0 y0 x1 y1 c σ = (if (if abI (x1 - x0) ≤ abI (y1 - y0) then abI (y1 - y0) else abI (x1 - x0)) ≤ 40 then J_Screen_paintLine_29 N N x0 y0 x1 y1 c (if abI (x1 - x0) ≤ abI (y1 - y0) then abI (y1 - y0) else abI (x1 - x0)) 0 σ else some σ) := by
    have ab : ∀ (v : Int32) (s : St), J_CMath_abs N v s = some (abI v, s) := by
      intro v s
      rw [J_CMath_abs]
      unfold abI
      by_cases q : 0 ≤ v
      · rw [if_pos q, if_pos q]
      · rw [if_neg q, if_neg q]
    have mx : ∀ (u v : Int32) (s : St), J_CMath_max N u v s = some (if u ≤ v then v else u, s) := by
      intro u v s
      rw [J_CMath_max]
      by_cases q : u < v
      · rw [if_pos q, if_pos (by rw [Int32.lt_iff_toInt_lt] at q; rw [Int32.le_iff_toInt_le]; omega)]
      · rw [if_neg q]
        by_cases q2 : u ≤ v
        · rw [if_pos q2, Int32.le_antisymm q2 (by rw [Int32.lt_iff_toInt_lt] at q; rw [Int32.le_iff_toInt_le]; omega)]
        · rw [if_neg q2]
    rw [J_Screen_paintLine, ab, ax_bs, ab, ax_bs, mx, ax_bs]
  have cM : J_Mod_stroke N x0 y0 x1 y1 c τ = J_Mod_stroke_55 N (if abI (x1 - x0) ≤ abI (y1 - y0) then abI (y1 - y0) else abI (x1 - x0)) x0 y0 c (x1 - x0) (y1 - y0) τ := by
    have s39 : ∀ u v : Int32, J_Mod_stroke_39 N v x0 y0 c (x1 - x0) (y1 - y0) u τ = J_Mod_stroke_55 N (if u ≤ v then v else u) x0 y0 c (x1 - x0) (y1 - y0) τ := by
      intro u v
      rw [J_Mod_stroke_39]
      by_cases q : u ≤ v
      · rw [if_pos q, if_pos q]
      · rw [if_neg q, if_neg q]
    have s24 : ∀ u : Int32, J_Mod_stroke_24 N u x0 y0 c (x1 - x0) (y1 - y0) τ = J_Mod_stroke_39 N (abI (y1 - y0)) x0 y0 c (x1 - x0) (y1 - y0) u τ := by
      intro u
      rw [J_Mod_stroke_24]
      unfold abI
      by_cases q : 0 ≤ y1 - y0
      · rw [if_pos q, if_pos q]
      · rw [if_neg q, if_neg q]
    have s0 : J_Mod_stroke N x0 y0 x1 y1 c τ = J_Mod_stroke_24 N (abI (x1 - x0)) x0 y0 c (x1 - x0) (y1 - y0) τ := by
      rw [J_Mod_stroke, ax_let, ax_let]
      unfold abI
      by_cases q : 0 ≤ x1 - x0
      · rw [if_pos q, if_pos q]
      · rw [if_neg q, if_neg q]
    rw [s0, s24, s39]
  have em : (if abI (x1 - x0) ≤ abI (y1 - y0) then abI (y1 - y0) else abI (x1 - x0)).toInt = if (abI (x1 - x0)).toInt ≤ (abI (y1 - y0)).toInt then (abI (y1 - y0)).toInt else (abI (x1 - x0)).toInt := by
    by_cases q : abI (x1 - x0) ≤ abI (y1 - y0)
    · rw [if_pos q, if_pos (by rw [Int32.le_iff_toInt_le] at q; exact q)]
    · rw [if_neg q, if_neg (fun w => q (by rw [Int32.le_iff_toInt_le]; exact w))]
  rw [cC, cM]
  generalize (if abI (x1 - x0) ≤ abI (y1 - y0) then abI (y1 - y0) else abI (x1 - x0)) = m at em ⊢
  rw [J_Mod_stroke_55]
  by_cases q : m ≤ 40
  · rw [if_pos q, if_pos q]
    have q40 : m.toInt ≤ 40 := by rw [Int32.le_iff_toInt_le] at q; exact q
    have b1 : 0 ≤ m.toInt ∧ -m.toInt ≤ (x1 - x0).toInt ∧ (x1 - x0).toInt ≤ m.toInt ∧ -m.toInt ≤ (y1 - y0).toInt ∧ (y1 - y0).toInt ≤ m.toInt := by
      rw [em, ax, ay]
      split <;> split at * <;> split at * <;> omega
    obtain ⟨n, n1, n2, rfl⟩ := tI_of (x := m) rfl b1.1
    by_cases z : n = 0
    · subst z
      rw [if_pos (show nI 0 = 0 from rfl)]
      obtain ⟨σ2, τ2, p1, p2, p3, p4, p5⟩ := pu_paint2 (N := N) (a := x0) (b := y0) (c := c) h
      obtain ⟨N, rfl⟩ : ∃ k, N = k + 2 := ⟨N - 2, by omega⟩
      refine ⟨σ2, τ2, ?_, ?_, p3, p4, p5⟩
      · rw [J_Screen_paintLine_29, if_neg (by decide), J_Screen_rounded, if_pos (show nI 0 = 0 from rfl), ax_bs, J_Screen_rounded, if_pos (show nI 0 = 0 from rfl), ax_bs, Int32.add_zero, Int32.add_zero, p1, ax_bsV, ax_let, J_Screen_paintLine_29, if_pos (by decide)]
      · rw [p2, ax_bsV, J_Mod_stroke_82, if_neg (by decide), if_pos (by decide)]
    · rw [if_neg (nI_ne0 (by omega) (by omega))]
      exact pu_stk (N := N) (n := n) (by omega) (by omega) (by omega) (by omega) (by omega) (by omega) (n + 1) 0 σ τ N N (by omega) h (by omega) (by omega)
  · rw [if_neg q, if_neg q]
    exact ⟨σ, τ, rfl, rfl, dFr.rf _ _, dFr.rf _ _, h⟩
