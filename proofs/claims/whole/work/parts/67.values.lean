/-! PURE ROWS 18: what nodes are worth; the reference's working out, step by step. A : the reference's arrays (7 values, 9 cells, 10 dots, 11 held). -/
def cellF (a : Nat → Int32) (i : Int32) : Int32 := if i < 0 then 0 else if 32 ≤ i then 0 else a i.toNatClampNeg
def restF (x y : Int32) : Int32 := if lg_cmp (x.toInt64 - x.toInt64 / y.toInt64 * y.toInt64) 0 = 0 then (x.toInt64 - y.toInt64 * (x.toInt64 / y.toInt64)).toInt32 else if (0 ≤ x ↔ 0 ≤ y) then (x.toInt64 - y.toInt64 * (x.toInt64 / y.toInt64)).toInt32 else (x.toInt64 - y.toInt64 * (x.toInt64 / y.toInt64 - 1)).toInt32
def twoF (a0 a1 a2 : Int32) : Int32 := if a0 = 38 then a1 &&& a2 else if a0 = 42 then ((((a1.toInt64) * (a2.toInt64)) >>> ((16 : Int32).toInt64 &&& 63)).toInt32) else if a0 = 43 then a1 + a2 else if a0 = 45 then a1 - a2 else if a0 = 47 then (if a2 = 0 then (if a1 < 0 then (-2147483648) else 2147483647) else (((a1.toInt64) * (65536)) / (a2.toInt64)).toInt32) else if a0 = 60 then (if a2 ≤ a1 then 0 else 65536) else if a0 = 61 then (if a1 = a2 then 65536 else 0) else if a0 = 62 then (if a1 ≤ a2 then 0 else 65536) else if a0 = 124 then a1 ||| a2 else if a2 = 0 then 0 else restF a1 a2
def insF (a b : Int32) : Bool := !decide (a < 0) && (!decide (16 ≤ a) && (!decide (b < 0) && !decide (16 ≤ b)))
def pgF (d : Nat → Int32) (x y : Int32) : Int32 := if insF (x >>> (16 &&& 31) : Int32) (y >>> (16 &&& 31) : Int32) = true then (65536 : Int32) * d (((16 : Int32) * (y >>> (16 &&& 31) : Int32)) + (x >>> (16 &&& 31) : Int32)).toNatClampNeg else 0
def btnF (h : Nat → Int32) (b : Int32) : Int32 := if b < 0 then 0 else if 6 ≤ b then 0 else if h b.toNatClampNeg ≤ 0 then 0 else 65536
def btnpF (h : Nat → Int32) (b : Int32) : Int32 := if b < 0 then 0 else if 6 ≤ b then 0 else if h b.toNatClampNeg = 1 then 65536 else if h b.toNatClampNeg < 9 then 0 else if (h b.toNatClampNeg - h b.toNatClampNeg / 4 * 4) = 1 then 65536 else 0
def rndS (sd : Int32) : Int32 := sd * 1103515245 + 12345
def rndV (sd x : Int32) : Int32 := ((((((rndS sd).toUInt32 >>> ((16 : Int32).toUInt32 &&& Int32.toUInt32 31)).toInt32).toInt64) * (x.toInt64)) >>> ((16 : Int32).toInt64 &&& 63)).toInt32
def o2 (rl : Nat) (A : Nat → Nat → Int32) (k : Nat) (x y : Int32) : Int32 := if 13 ≤ k ∧ k ≤ 20 then (if rl = 0 then 0 else if k = 17 then (if y ≤ x then y else x) else if k = 18 then (if x ≤ y then y else x) else pgF (A 10) x y) else twoF (nI k) x y
def o1 (rl : Nat) (A : Nat → Nat → Int32) (k : Nat) (x sd : Int32) : Int32 × Int32 := if k = 21 then (-x, sd) else if k = 33 then (if x = 0 then 65536 else 0, sd) else if k = 64 then (cellF (A 9) (x >>> (16 &&& 31) : Int32), sd) else if rl = 0 then (0, sd) else if k = 13 then (if 0 ≤ x then x else -x, sd) else if k = 14 then ((x >>> (16 &&& 31) : Int32) * 65536, sd) else if k = 15 then (btnF (A 11) (x >>> (16 &&& 31) : Int32), sd) else if k = 16 then (btnpF (A 11) (x >>> (16 &&& 31) : Int32), sd) else (rndV sd x, rndS sd)
def vN (rl : Nat) (A : Nat → Nat → Int32) (n : Nat × Int32) (p : List Int32 × Int32) : Option (List Int32 × Int32) :=
  if n.1 = 2 then some (n.2 :: p.1, p.2)
  else if n.1 = 3 then some ((if rl = 0 then 0 else A 7 n.2.toNatClampNeg) :: p.1, p.2)
  else if ar n.1 = 1 then (match p.1 with | x :: s => some ((o1 rl A n.1 x p.2).1 :: s, (o1 rl A n.1 x p.2).2) | [] => none)
  else (match p.1 with | y :: x :: s => some (o2 rl A n.1 x y :: s, p.2) | _ => none)
def exV (rl : Nat) (A : Nat → Nat → Int32) : List (Nat × Int32) → List Int32 × Int32 → Option (List Int32 × Int32)
  | [], p => some p
  | n :: E, p => match vN rl A n p with | none => none | some q => exV rl A E q
theorem exV_app {rl : Nat} {A : Nat → Nat → Int32} : ∀ (X Y : List (Nat × Int32)) (p q r : List Int32 × Int32), exV rl A X p = some q → exV rl A Y q = some r → exV rl A (X ++ Y) p = some r := by
  intro X
  induction X with
  | nil =>
    intro Y p q r h1 h2
    have : p = q := by injection h1
    subst this
    exact h2
  | cons n X ih =>
    intro Y p q r h1 h2
    show (match vN rl A n p with | none => none | some q => exV rl A (X ++ Y) q) = some r
    have h1 : (match vN rl A n p with | none => none | some q => exV rl A X q) = some q := h1
    cases h : vN rl A n p with
    | none => rw [h] at h1; exact absurd h1 (by simp)
    | some z =>
      rw [h] at h1
      exact ih Y z q r h1 h2
def xv (rl : Nat) (A : Nat → Nat → Int32) (E : List (Nat × Int32)) (s : List Int32) (sd : Int32) (s2 : List Int32) (sd2 : Int32) : Prop := ∀ sb, exV rl A E (s ++ sb, sd) = some (s2 ++ sb, sd2)
def xh (E : List (Nat × Int32)) (hs : List Nat) (hi : Nat) (hs2 : List Nat) (hi2 : Nat) : Prop := ∀ hb, exH E (hs ++ hb, hi) = some (hs2 ++ hb, hi2)
theorem xv.tr {rl : Nat} {A : Nat → Nat → Int32} {X Y : List (Nat × Int32)} {s s2 s3 : List Int32} {d d2 d3 : Int32} (h : xv rl A X s d s2 d2) (h2 : xv rl A Y s2 d2 s3 d3) : xv rl A (X ++ Y) s d s3 d3 := fun sb => exV_app _ _ _ _ _ (h sb) (h2 sb)
theorem xh.tr {X Y : List (Nat × Int32)} {s s2 s3 : List Nat} {d d2 d3 : Nat} (h : xh X s d s2 d2) (h2 : xh Y s2 d2 s3 d3) : xh (X ++ Y) s d s3 d3 := fun sb => exH_app _ _ _ _ _ (h sb) (h2 sb)
theorem xv.nil {rl : Nat} {A : Nat → Nat → Int32} {s : List Int32} {d : Int32} : xv rl A [] s d s d := fun _ => rfl
theorem xh.nil {s : List Nat} {d : Nat} : xh [] s d s d := fun _ => rfl
theorem xv.one {rl : Nat} {A : Nat → Nat → Int32} {n : Nat × Int32} {s s2 : List Int32} {d d2 : Int32} (h : ∀ sb, vN rl A n (s ++ sb, d) = some (s2 ++ sb, d2)) : xv rl A [n] s d s2 d2 := fun sb => by
  show (match vN rl A n (s ++ sb, d) with | none => none | some q => exV rl A [] q) = _
  rw [h sb]
  rfl
theorem xh.one {n : Nat × Int32} {s s2 : List Nat} {d d2 : Nat} (h : ∀ sb, hN n.1 (s ++ sb, d) = some (s2 ++ sb, d2)) : xh [n] s d s2 d2 := fun sb => exH_one (h sb)
theorem i64_ne {a : Int32} (h : ¬ a = 0) : ¬ a.toInt64 = 0 := fun x => h (by
  have y := congrArg Int64.toInt x
  rw [Int32.toInt_toInt64] at y
  exact Int32.toInt_inj.mp (y.trans rfl))
theorem pu_rest {N : Nat} {x y : Int32} {τ : St} (h : ¬ y = 0) : J_Mod_rest N x y τ = some (restF x y, τ) := by
  rw [J_Mod_rest, if_neg (i64_ne h), ax_let, if_neg (i64_ne h), restF]
  by_cases q : lg_cmp (x.toInt64 - x.toInt64 / y.toInt64 * y.toInt64) 0 = 0
  · rw [if_pos q, if_pos q, J_Mod_rest_41]
  · rw [if_neg q, if_neg q]
    by_cases a : 0 ≤ x
    · rw [if_pos a, J_Mod_rest_25]
      by_cases b : 0 ≤ y
      · rw [if_pos b, J_Mod_rest_34, if_pos rfl, J_Mod_rest_41, if_pos (by simp [a, b])]
      · rw [if_neg b, J_Mod_rest_34, if_neg (by decide), ax_let, J_Mod_rest_41, if_neg (by simp [a, b])]
    · rw [if_neg a, J_Mod_rest_25]
      by_cases b : 0 ≤ y
      · rw [if_pos b, J_Mod_rest_34, if_neg (by decide), ax_let, J_Mod_rest_41, if_neg (by simp [a, b])]
      · rw [if_neg b, J_Mod_rest_34, if_pos rfl, J_Mod_rest_41, if_pos (by simp [a, b])]
theorem pu_ifg {β : Type} {c : Prop} [Decidable c] {a b : β} {τ : St} {X Y : Option (β × St)} (h1 : c → X = some (a, τ)) (h2 : ¬ c → Y = some (b, τ)) : (if c then X else Y) = some (if c then a else b, τ) := by
  by_cases h : c
  · rw [if_pos h, if_pos h, h1 h]
  · rw [if_neg h, if_neg h, h2 h]
theorem pu_two {N : Nat} {a x y : Int32} {τ : St} : J_Mod_two N a x y τ = some (twoF a x y, τ) := by
  rw [J_Mod_two, twoF]
  repeat' first | rfl | (refine pu_ifg (fun h => ?_) (fun h => ?_)) | (rw [if_neg (i64_ne h)]) | (rw [pu_rest h, ax_bs])
theorem pu_seen {N : Nat} {x y : Int32} {τ : St} : J_Mod_seen N x y τ = some (if insF x y = true then 1 else 0, τ) := by
  rw [J_Mod_seen, insF]
  by_cases h1 : x < 0
  · simp [h1]
  by_cases h2 : 16 ≤ x
  · simp [h1, h2]
  by_cases h3 : y < 0
  · simp [h1, h2, h3]
  by_cases h4 : 16 ≤ y
  · simp [h1, h2, h3, h4]
  · simp [h1, h2, h3, h4]
theorem insF_ix {x y : Int32} (h : insF x y = true) : ∃ i j : Nat, i < 16 ∧ j < 16 ∧ x = nI i ∧ y = nI j := by
  simp only [insF, Bool.and_eq_true, Bool.not_eq_true', decide_eq_false_iff_not] at h
  obtain ⟨h1, h2, h3, h4⟩ := h
  obtain ⟨i, hi, rfl⟩ := nI_of h1
  obtain ⟨j, hj, rfl⟩ := nI_of h3
  refine ⟨i, j, ?_, ?_, rfl, rfl⟩
  · rcases Nat.lt_or_ge i 16 with q | q
    · exact q
    · exact absurd (nI_le (a := 16) q hi) h2
  · rcases Nat.lt_or_ge j 16 with q | q
    · exact q
    · exact absurd (nI_le (a := 16) q hj) h4
/-- the reference's built-in functions -/
theorem in6 {b : Int32} (h1 : ¬ b < 0) (h2 : ¬ 6 ≤ b) : inB b 6 = true := by
  obtain ⟨i, hi, rfl⟩ := nI_of h1
  refine pu_inB ?_ (by decide)
  rcases Nat.lt_or_ge i 6 with q | q
  · exact q
  · exact absurd (nI_le (a := 6) q hi) h2
theorem pu_bi1 {N k : Nat} {x y : Int32} {τ : St} (h1 : 13 ≤ k) (h2 : k ≤ 20) (hp : pt k = 1) : J_Mod_builtIn N (nI (kM k)) x y τ = some ((o1 1 τ.2 k x (τ.1 5)).1, sF τ 5 (o1 1 τ.2 k x (τ.1 5)).2) := by
  have hk : k = 13 ∨ k = 14 ∨ k = 15 ∨ k = 16 ∨ k = 20 := by
    unfold pt at hp
    split at hp <;> omega
  have hid : sF τ 5 (τ.1 5) = τ := sF_id τ 5 _ rfl
  rw [J_Mod_builtIn, ax_let]
  rcases hk with rfl | rfl | rfl | rfl | rfl
  · rw [if_pos (by decide)]
    show _ = some (if 0 ≤ x then x else -x, sF τ 5 (τ.1 5))
    rw [hid]
    split <;> rfl
  · rw [if_neg (by decide), if_pos (by decide)]
    show _ = some ((x >>> (16 &&& 31) : Int32) * 65536, sF τ 5 (τ.1 5))
    rw [hid]
  · rw [if_neg (by decide), if_neg (by decide), if_pos (by decide)]
    show _ = some (btnF (τ.2 11) (x >>> (16 &&& 31) : Int32), sF τ 5 (τ.1 5))
    rw [hid, btnF]
    repeat' first | rfl | (refine pu_ifg (fun _ => ?_) (fun _ => ?_)) | (rw [if_pos (in6 (by assumption) (by assumption))])
  · rw [if_neg (by decide), if_neg (by decide), if_neg (by decide), if_pos (by decide)]
    show _ = some (btnpF (τ.2 11) (x >>> (16 &&& 31) : Int32), sF τ 5 (τ.1 5))
    rw [hid, btnpF]
    repeat' first | rfl | (refine pu_ifg (fun _ => ?_) (fun _ => ?_)) | (rw [if_pos (in6 (by assumption) (by assumption))])
  · rw [if_neg (by decide), if_neg (by decide), if_neg (by decide), if_neg (by decide), if_neg (by decide), if_neg (by decide), if_neg (by decide), ax_let]
    rfl
theorem pu_bi2 {N k : Nat} {x y : Int32} {τ : St} (h1 : 13 ≤ k) (h2 : k ≤ 20) (hp : pt k = 2) : J_Mod_builtIn N (nI (kM k)) x y τ = some (o2 1 τ.2 k x y, τ) := by
  have hk : k = 17 ∨ k = 18 ∨ k = 19 := by
    unfold pt at hp
    split at hp <;> omega
  rw [J_Mod_builtIn, ax_let]
  rcases hk with rfl | rfl | rfl
  · rw [if_neg (by decide), if_neg (by decide), if_neg (by decide), if_neg (by decide), if_pos (by decide)]
    show _ = some (if y ≤ x then y else x, τ)
    split <;> rfl
  · rw [if_neg (by decide), if_neg (by decide), if_neg (by decide), if_neg (by decide), if_neg (by decide), if_pos (by decide)]
    show _ = some (if x ≤ y then y else x, τ)
    split <;> rfl
  · rw [if_neg (by decide), if_neg (by decide), if_neg (by decide), if_neg (by decide), if_neg (by decide), if_neg (by decide), if_pos (by decide), pu_seen, ax_bs]
    show _ = some (pgF (τ.2 10) x y, τ)
    unfold pgF
    by_cases q : insF (x >>> (16 &&& 31) : Int32) (y >>> (16 &&& 31) : Int32) = true
    · rw [if_pos q, if_pos q, if_neg (by decide)]
      obtain ⟨i, j, hi, hj, e1, e2⟩ := insF_ix q
      rw [e1, e2, pu_ix2 hi hj, if_pos (pu_inB (by omega) (by decide))]
    · rw [if_neg q, if_neg q, if_pos rfl]
