/-! PURE ROWS 29: the console works a node out as the yard's values go. -/
theorem xor_sgn (x y : Int32) : 0 ≤ (x ^^^ y) ↔ (0 ≤ x ↔ 0 ≤ y) := by
  have key : ∀ a : Int32, 0 ≤ a ↔ a.toBitVec.msb = false := by
    intro a
    rw [Int32.le_iff_toInt_le, BitVec.msb_eq_toInt]
    show 0 ≤ a.toInt ↔ decide (a.toInt < 0) = false
    rw [decide_eq_false_iff_not]
    omega
  rw [key, key, key, Int32.toBitVec_xor, BitVec.msb_xor]
  cases x.toBitVec.msb <;> cases y.toBitVec.msb <;> decide
theorem tmod_b {X Y : Int} (hY : ¬ Y = 0) (h1 : -2 ^ 31 ≤ Y) (h2 : Y < 2 ^ 31) : -2 ^ 31 ≤ X.tmod Y ∧ X.tmod Y < 2 ^ 31 := by
  have h := Int.natAbs_tmod X Y
  have h3 := Nat.mod_lt X.natAbs (show 0 < Y.natAbs by omega)
  omega
theorem bm32 {a : Int} (h1 : -2 ^ 31 ≤ a) (h2 : a < 2 ^ 31) : a.bmod (2 ^ 32) = a := Int.bmod_eq_of_le (by omega) (by omega)
theorem bm64 {a : Int} (h1 : -2 ^ 31 ≤ a) (h2 : a < 2 ^ 31) : a.bmod (2 ^ 64) = a := Int.bmod_eq_of_le (by omega) (by omega)
theorem y_ne {y : Int32} (h : ¬ y = 0) : ¬ y.toInt = 0 := fun w => h (Int32.toInt_inj.mp w)
theorem rem32 {x y : Int32} (h : ¬ y = 0) : (x - x / y * y).toInt = x.toInt.tmod y.toInt := by
  rw [Int32.toInt_sub, Int32.toInt_mul, Int32.toInt_div, Int.sub_bmod_bmod]
  have e : (x.toInt - (x.toInt.tdiv y.toInt).bmod (2 ^ 32) * y.toInt).bmod (2 ^ 32) = (x.toInt - x.toInt.tdiv y.toInt * y.toInt).bmod (2 ^ 32) := by
    rw [← Int.sub_bmod_bmod, Int.bmod_mul_bmod, Int.sub_bmod_bmod]
  have e2 : x.toInt - x.toInt.tdiv y.toInt * y.toInt = x.toInt.tmod y.toInt := by
    have := Int.tdiv_mul_add_tmod x.toInt y.toInt
    omega
  obtain ⟨b1, b2⟩ := tmod_b (X := x.toInt) (y_ne h) (Int32.le_toInt y) (Int32.toInt_lt y)
  rw [e, e2, bm32 b1 b2]
theorem rem64 {x y : Int32} (h : ¬ y = 0) : (x.toInt64 - x.toInt64 / y.toInt64 * y.toInt64).toInt = x.toInt.tmod y.toInt := by
  rw [Int64.toInt_sub, Int64.toInt_mul, Int64.toInt_div, Int.sub_bmod_bmod, Int32.toInt_toInt64, Int32.toInt_toInt64]
  have e : (x.toInt - (x.toInt.tdiv y.toInt).bmod (2 ^ 64) * y.toInt).bmod (2 ^ 64) = (x.toInt - x.toInt.tdiv y.toInt * y.toInt).bmod (2 ^ 64) := by
    rw [← Int.sub_bmod_bmod, Int.bmod_mul_bmod, Int.sub_bmod_bmod]
  have e2 : x.toInt - x.toInt.tdiv y.toInt * y.toInt = x.toInt.tmod y.toInt := by
    have := Int.tdiv_mul_add_tmod x.toInt y.toInt
    omega
  obtain ⟨b1, b2⟩ := tmod_b (X := x.toInt) (y_ne h) (Int32.le_toInt y) (Int32.toInt_lt y)
  rw [e, e2, bm64 b1 b2]
theorem pu_fmod {N : Nat} {x y : Int32} {σ : St} (h : ¬ y = 0) : J_CMath_floorMod N x y σ = some (restF x y, σ) := by
  have e1 : (x.toInt64 - y.toInt64 * (x.toInt64 / y.toInt64)).toInt32 = x - x / y * y := by
    refine Int32.toInt_inj.mp ?_
    obtain ⟨b1, b2⟩ := tmod_b (X := x.toInt) (y_ne h) (Int32.le_toInt y) (Int32.toInt_lt y)
    rw [Int64.mul_comm, Int64.toInt_toInt32, rem64 h, rem32 h, bm32 b1 b2]
  have e2 : (x.toInt64 - y.toInt64 * (x.toInt64 / y.toInt64 - 1)).toInt32 = x - x / y * y + y := by
    refine Int32.toInt_inj.mp ?_
    have a : x.toInt64 - y.toInt64 * (x.toInt64 / y.toInt64 - 1) = x.toInt64 - x.toInt64 / y.toInt64 * y.toInt64 + y.toInt64 := by
      rw [Int64.mul_sub, Int64.mul_one, Int64.mul_comm, Int64.sub_eq_add_neg, Int64.neg_sub, Int64.sub_eq_add_neg y.toInt64, Int64.add_comm y.toInt64, ← Int64.add_assoc, ← Int64.sub_eq_add_neg]
    rw [a, Int64.toInt_toInt32, Int64.toInt_add, rem64 h, Int32.toInt_toInt64, Int32.toInt_add, rem32 h, Int.bmod_bmod_of_dvd (by decide)]
  have e3 : lg_cmp (x.toInt64 - x.toInt64 / y.toInt64 * y.toInt64) 0 = 0 ↔ x - x / y * y = 0 := by
    rw [lg_cmp_eq, ← Int64.toInt_inj, ← Int32.toInt_inj, rem64 h, rem32 h]
    exact Iff.rfl
  rw [J_CMath_floorMod, if_neg h, ax_let, restF]
  by_cases z : x - x / y * y = 0
  · rw [if_pos (e3.mpr z), e1]
    by_cases w : 0 ≤ (x ^^^ y)
    · rw [if_pos w]
    · rw [if_neg w, if_pos z]
  · rw [if_neg (fun q => z (e3.mp q))]
    by_cases w : 0 ≤ (x ^^^ y)
    · rw [if_pos w, if_pos ((xor_sgn x y).mp w), e1]
    · rw [if_neg w, if_neg z, if_neg (fun q => w ((xor_sgn x y).mpr q)), e2]
def envC (σ : St) (A : Nat → Nat → Int32) : Prop := (∀ k, k < 12 → σ.2 19 k = A 7 k) ∧ (∀ k, k < 32 → σ.2 20 k = A 9 k) ∧ (∀ k, k < 256 → σ.2 22 k = A 10 k) ∧ (∀ k, k < 6 → σ.2 23 k = A 11 k)
theorem pu_parts {N k : Nat} {σ : St} (h : k ≤ 124) : J_Con_partsOf N (nI k) σ = some (nI (ar k), σ) := by
  rw [J_Con_partsOf]
  by_cases q2 : k = 2
  · subst q2; rfl
  rw [if_neg (show ¬ nI k = 2 from fun x => q2 ((kne (c := 2) (by omega) (by decide)).mp x))]
  by_cases q3 : k = 3
  · subst q3; rfl
  rw [if_neg (show ¬ nI k = 3 from fun x => q3 ((kne (c := 3) (by omega) (by decide)).mp x)), pu_isb (by omega), ax_bs]
  by_cases q : 13 ≤ k ∧ k ≤ 20
  · obtain ⟨a1, a2, -⟩ := tP_fn k q.2 q.1
    rw [if_pos q, if_neg (by decide), show (4 : Int32) = nI 4 from rfl, pk_sub (by omega), if_pos (pu_inB (by omega) (by decide)), nI_clamp (by omega), a1, a2]
  · rw [if_neg q, if_pos rfl, pu_rank (by omega), ax_bs]
    have e : ar k = if rk k = 6 then 1 else 2 := by
      unfold ar
      rw [if_neg (by omega)]
      split
      · rfl
      · rfl
    rw [e]
    have hr := rk_le k
    by_cases z : rk k = 6
    · rw [if_pos (show nI (rk k) = 6 by rw [z]; rfl), if_pos z]
      rfl
    · rw [if_neg (show ¬ nI (rk k) = 6 from fun x => z ((kne (c := 6) (by omega) (by decide)).mp x)), if_neg z]
      rfl
theorem pu_cfloor {N : Nat} {x : Int32} {σ : St} : J_Machine_floor N x σ = some ((x >>> (16 &&& 31) : Int32), σ) := rfl
theorem pu_btnp (r : Int32) (h1 : ¬ r < 9) : ((r - 9) - (r - 9) / 4 * 4 = 0) ↔ (r - r / 4 * 4 = 1) := by
  obtain ⟨m, hm, e⟩ := nI_of (x := r) (fun w => h1 (by rw [Int32.lt_iff_toInt_lt] at w ⊢; exact Int.lt_trans w (by decide)))
  have h9 : 9 ≤ m := by
    rcases Nat.lt_or_ge m 9 with q | q
    · exact absurd (by rw [e]; exact nI_lt (b := 9) q (by decide)) h1
    · exact q
  have a : nI m - 9 = nI (m - 9) := pk_sub (b := 9) h9
  have b : nI (m - 9) - nI (m - 9) / 4 * 4 = nI ((m - 9) % 4) := pk_rem (d := 4) (by omega) (by decide) (by decide)
  have c : nI m - nI m / 4 * 4 = nI (m % 4) := pk_rem (d := 4) hm (by decide) (by decide)
  rw [e, a, b, c, show (0 : Int32) = nI 0 from rfl, show (1 : Int32) = nI 1 from rfl, nI_eq (by omega) (by decide), nI_eq (by omega) (by decide)]
  omega
theorem ar1_k {k : Nat} (h : ar k = 1) : k = 13 ∨ k = 14 ∨ k = 15 ∨ k = 16 ∨ k = 20 ∨ k = 21 ∨ k = 33 ∨ k = 64 := by
  unfold ar at h
  by_cases q1 : k = 2 ∨ k = 3
  · rw [if_pos q1] at h
    omega
  rw [if_neg q1] at h
  by_cases q2 : rk k = 6
  · have := rk6 q2
    omega
  rw [if_neg q2] at h
  by_cases q3 : 13 ≤ k ∧ k ≤ 20
  · rw [if_pos q3] at h
    rcases pt_cases (k := k) with ⟨z, -⟩ | ⟨z, z1, z2, z3⟩
    · omega
    · omega
  · rw [if_neg q3] at h
    omega
theorem ar2_k {k : Nat} (h : ar k = 2) (hok : 1 ≤ rk k ∨ (13 ≤ k ∧ k ≤ 20)) : k = 17 ∨ k = 18 ∨ k = 19 ∨ k = 37 ∨ k = 38 ∨ k = 42 ∨ k = 43 ∨ k = 45 ∨ k = 47 ∨ k = 60 ∨ k = 61 ∨ k = 62 ∨ k = 124 := by
  unfold ar at h
  by_cases q1 : k = 2 ∨ k = 3
  · rw [if_pos q1] at h
    omega
  rw [if_neg q1] at h
  by_cases q2 : rk k = 6
  · rw [if_pos q2] at h
    omega
  rw [if_neg q2] at h
  by_cases q3 : 13 ≤ k ∧ k ≤ 20
  · rw [if_pos q3] at h
    rcases pt_cases (k := k) with ⟨z, z1⟩ | ⟨z, -⟩
    · omega
    · omega
  · have hr := hok.resolve_right q3
    unfold rk at hr q2
    repeat' split at hr
    all_goals first | omega | (simp_all; omega) | simp_all
theorem pu_fof {N : Nat} {b : Int32} {σ : St} {A : Nat → Nat → Int32} (hA : envC σ A) : J_Pad_framesOf N b σ = some (if b < 0 then 0 else if 6 ≤ b then 0 else A 11 b.toNatClampNeg, σ) := by
  rw [J_Pad_framesOf]
  by_cases q1 : b < 0
  · rw [if_pos q1, if_pos q1]
  rw [if_neg q1, if_neg q1]
  by_cases q2 : 6 ≤ b
  · rw [if_pos q2, if_pos q2]
  rw [if_neg q2, if_neg q2, if_pos (in6 q1 q2)]
  have : b.toNatClampNeg < 6 := by
    have := in6 q1 q2
    unfold inB at this
    simp only [Bool.not_eq_true', Bool.or_eq_false_iff, decide_eq_false_iff_not] at this
    omega
  rw [hA.2.2.2 _ this]
theorem pu_of1 {N k : Nat} {x : Int32} {σ : St} {A : Nat → Nat → Int32} (h : ar k = 1) (hok : 1 ≤ rk k ∨ (13 ≤ k ∧ k ≤ 20)) (hA : envC σ A) : J_Machine_ofOne N (nI k) x σ = some ((o1 1 A k x (σ.1 19)).1, sF σ 19 (o1 1 A k x (σ.1 19)).2) := by
  have idd : sF σ 19 (σ.1 19) = σ := sF_id σ 19 _ rfl
  rw [J_Machine_ofOne]
  rcases ar1_k h with rfl | rfl | rfl | rfl | rfl | rfl | rfl | rfl
  · rw [if_pos (show nI 13 = 13 from rfl), show o1 1 A 13 x (σ.1 19) = (if 0 ≤ x then x else -x, σ.1 19) from rfl, idd]
    by_cases q : 0 ≤ x
    · rw [if_pos q, if_pos q]
    · rw [if_neg q, if_neg q]
  · rw [if_neg (by decide), if_pos (show nI 14 = 14 from rfl), pu_cfloor, ax_bs, show o1 1 A 14 x (σ.1 19) = ((x >>> (16 &&& 31) : Int32) * 65536, σ.1 19) from rfl, idd]
  · rw [if_neg (by decide), if_neg (by decide), if_pos (show nI 15 = 15 from rfl), pu_cfloor, ax_bs, show o1 1 A 15 x (σ.1 19) = (btnF (A 11) (x >>> (16 &&& 31) : Int32), σ.1 19) from rfl, idd]
    generalize (x >>> (16 &&& 31) : Int32) = b
    rw [J_Pad_isDown, pu_fof hA, ax_bs, btnF]
    by_cases q1 : b < 0
    · rw [if_pos q1, if_pos q1]; rfl
    rw [if_neg q1, if_neg q1]
    by_cases q2 : 6 ≤ b
    · rw [if_pos q2, if_pos q2]; rfl
    rw [if_neg q2, if_neg q2]
    by_cases q3 : A 11 b.toNatClampNeg ≤ 0
    · rw [if_pos q3, if_pos q3]; rfl
    · rw [if_neg q3, if_neg q3]; rfl
  · rw [if_neg (by decide), if_neg (by decide), if_neg (by decide), if_pos (show nI 16 = 16 from rfl), pu_cfloor, ax_bs, show o1 1 A 16 x (σ.1 19) = (btnpF (A 11) (x >>> (16 &&& 31) : Int32), σ.1 19) from rfl, idd]
    generalize (x >>> (16 &&& 31) : Int32) = b
    rw [J_Pad_isStruck, pu_fof hA, ax_bs, btnpF]
    by_cases q1 : b < 0
    · rw [if_pos q1, if_pos q1]; rfl
    rw [if_neg q1, if_neg q1]
    by_cases q2 : 6 ≤ b
    · rw [if_pos q2, if_pos q2]; rfl
    rw [if_neg q2, if_neg q2]
    generalize A 11 b.toNatClampNeg = r
    by_cases q3 : r = 1
    · rw [if_pos q3, if_pos q3]; rfl
    rw [if_neg q3, if_neg q3]
    by_cases q4 : r < 9
    · rw [if_pos q4, if_pos q4]; rfl
    rw [if_neg q4, if_neg q4]
    by_cases q5 : r - r / 4 * 4 = 1
    · rw [if_pos ((pu_btnp r q4).mpr q5), if_pos q5]; rfl
    · rw [if_neg (fun w => q5 ((pu_btnp r q4).mp w)), if_neg q5]; rfl
  · rw [if_neg (by decide), if_neg (by decide), if_neg (by decide), if_neg (by decide), if_pos (show nI 20 = 20 from rfl), J_Machine_random, ax_let, ax_bs]
    rfl
  · rw [if_neg (by decide), if_neg (by decide), if_neg (by decide), if_neg (by decide), if_neg (by decide), if_pos (show nI 21 = 21 from rfl), show o1 1 A 21 x (σ.1 19) = (-x, σ.1 19) from rfl, idd]
  · rw [if_neg (by decide), if_neg (by decide), if_neg (by decide), if_neg (by decide), if_neg (by decide), if_neg (by decide), if_pos (show nI 33 = 33 from rfl), show o1 1 A 33 x (σ.1 19) = (if x = 0 then 65536 else 0, σ.1 19) from rfl, idd]
    by_cases q : x = 0
    · rw [if_pos q, if_pos q]; rfl
    · rw [if_neg q, if_neg q]; rfl
  · rw [if_neg (by decide), if_neg (by decide), if_neg (by decide), if_neg (by decide), if_neg (by decide), if_neg (by decide), if_neg (by decide), if_pos (show nI 64 = 64 from rfl), pu_cfloor, ax_bs, show o1 1 A 64 x (σ.1 19) = (cellF (A 9) (x >>> (16 &&& 31) : Int32), σ.1 19) from rfl, idd]
    generalize (x >>> (16 &&& 31) : Int32) = b
    rw [J_Machine_readCell, cellF]
    by_cases q1 : b < 0
    · rw [if_pos q1, if_pos q1]; rfl
    rw [if_neg q1, if_neg q1]
    by_cases q2 : 32 ≤ b
    · rw [if_pos q2, if_pos q2]; rfl
    rw [if_neg q2, if_neg q2]
    obtain ⟨j, hj, e⟩ : ∃ j : Nat, j < 32 ∧ b = nI j := by
      rcases pk_ix b (n := 32) (by decide) with w | w | w
      · exact absurd w q1
      · exact absurd w q2
      · exact w
    rw [e, if_pos (pu_inB hj (by decide)), nI_clamp (by omega), ax_bs, hA.2.1 j hj]
theorem pu_of2 {N k : Nat} {x y : Int32} {σ : St} {A : Nat → Nat → Int32} (h : ar k = 2) (hok : 1 ≤ rk k ∨ (13 ≤ k ∧ k ≤ 20)) (hA : envC σ A) : J_Machine_ofTwo N (nI k) x y σ = some (o2 1 A k x y, σ) := by
  have le : ∀ a b : Int32, ¬ a < b ↔ b ≤ a := fun a b => by rw [Int32.lt_iff_toInt_lt, Int32.le_iff_toInt_le]; omega
  rw [J_Machine_ofTwo]
  rcases ar2_k h hok with rfl | rfl | rfl | rfl | rfl | rfl | rfl | rfl | rfl | rfl | rfl | rfl | rfl
  · rw [if_pos (show nI 17 = 17 from rfl), show o2 1 A 17 x y = (if y ≤ x then y else x) from rfl, J_CMath_min]
    by_cases q : y < x
    · rw [if_pos q, if_pos (by rw [Int32.lt_iff_toInt_lt] at q; rw [Int32.le_iff_toInt_le]; omega), ax_bs]
    · rw [if_neg q, ax_bs]
      by_cases q2 : y ≤ x
      · rw [if_pos q2, Int32.le_antisymm ((le _ _).mp q) q2]
      · rw [if_neg q2]
  · rw [if_neg (by decide), if_pos (show nI 18 = 18 from rfl), show o2 1 A 18 x y = (if x ≤ y then y else x) from rfl, J_CMath_max]
    by_cases q : x < y
    · rw [if_pos q, if_pos (by rw [Int32.lt_iff_toInt_lt] at q; rw [Int32.le_iff_toInt_le]; omega), ax_bs]
    · rw [if_neg q, ax_bs]
      by_cases q2 : x ≤ y
      · rw [if_pos q2, Int32.le_antisymm q2 ((le _ _).mp q)]
      · rw [if_neg q2]
  · rw [if_neg (by decide), if_neg (by decide), if_pos (show nI 19 = 19 from rfl), pu_cfloor, ax_bs, pu_cfloor, ax_bs, show o2 1 A 19 x y = pgF (A 10) x y from rfl, pgF]
    generalize (x >>> (16 &&& 31) : Int32) = a
    generalize (y >>> (16 &&& 31) : Int32) = b
    rw [J_Screen_colourAt]
    have hin : J_Screen_isInside N a b σ = some (if insF a b = true then 1 else 0, σ) := pu_seen (N := N) (τ := σ)
    rw [hin, ax_bs]
    by_cases q : insF a b = true
    · obtain ⟨i, j, hi, hj, rfl, rfl⟩ := insF_ix q
      rw [if_pos q, if_neg (by decide), pu_ix1 hi hj, if_pos (pu_inB (by omega) (by decide)), nI_clamp (by omega), ax_bs, if_pos q, pu_ix2 hi hj, nI_clamp (by omega), hA.2.2.1 _ (by omega), Int32.mul_comm]
    · rw [if_neg q, if_pos rfl, ax_bs, if_neg q]
      rfl
  · rw [if_neg (by decide), if_neg (by decide), if_neg (by decide), if_pos (show nI 37 = 37 from rfl), show o2 1 A 37 x y = (if y = 0 then 0 else restF x y) from rfl]
    by_cases q : y = 0
    · rw [if_pos q, if_pos q]
    · rw [if_neg q, if_neg q, pu_fmod q, ax_bs]
  · rfl
  · rfl
  · rfl
  · rfl
  · rw [if_neg (by decide), if_neg (by decide), if_neg (by decide), if_neg (by decide), if_neg (by decide), if_neg (by decide), if_neg (by decide), if_neg (by decide), if_pos (show nI 47 = 47 from rfl), show o2 1 A 47 x y = (if y = 0 then (if x < 0 then (-2147483648) else 2147483647) else (((x.toInt64) * (65536)) / (y.toInt64)).toInt32) from rfl, J_Machine_quotient]
    by_cases q : y = 0
    · rw [if_pos q, if_pos q]
      by_cases q2 : x < 0
      · rw [if_pos q2, if_pos q2, ax_bs]
      · rw [if_neg q2, if_neg q2, ax_bs]
    · rw [if_neg q, if_neg q, if_neg (i64_ne q), ax_bs]
  · rw [if_neg (by decide), if_neg (by decide), if_neg (by decide), if_neg (by decide), if_neg (by decide), if_neg (by decide), if_neg (by decide), if_neg (by decide), if_neg (by decide), if_pos (show nI 60 = 60 from rfl), show o2 1 A 60 x y = (if y ≤ x then 0 else 65536) from rfl]
    by_cases q : y ≤ x
    · rw [if_pos q, if_pos q]; rfl
    · rw [if_neg q, if_neg q]; rfl
  · rw [if_neg (by decide), if_neg (by decide), if_neg (by decide), if_neg (by decide), if_neg (by decide), if_neg (by decide), if_neg (by decide), if_neg (by decide), if_neg (by decide), if_neg (by decide), if_pos (show nI 61 = 61 from rfl), show o2 1 A 61 x y = (if x = y then 65536 else 0) from rfl]
    by_cases q : x = y
    · rw [if_pos q, if_pos q]; rfl
    · rw [if_neg q, if_neg q]; rfl
  · rw [if_neg (by decide), if_neg (by decide), if_neg (by decide), if_neg (by decide), if_neg (by decide), if_neg (by decide), if_neg (by decide), if_neg (by decide), if_neg (by decide), if_neg (by decide), if_neg (by decide), if_pos (show nI 62 = 62 from rfl), show o2 1 A 62 x y = (if x ≤ y then 0 else 65536) from rfl]
    by_cases q : x ≤ y
    · rw [if_pos q, if_pos q]; rfl
    · rw [if_neg q, if_neg q]; rfl
  · rfl
