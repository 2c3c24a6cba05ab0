/-! PURE ROWS 11: the yard: how a line's tokens become nodes. A token is its kind (as the console names it) and its meaning; a node too. What waits: a kind and the commas still due in it. -/
def rk (k : Nat) : Nat := if k = 21 ∨ k = 33 ∨ k = 64 then 6 else if k = 42 ∨ k = 47 ∨ k = 37 then 5 else if k = 43 ∨ k = 45 then 4 else if k = 60 ∨ k = 62 ∨ k = 61 then 3 else if k = 38 then 2 else if k = 124 then 1 else 0
def pt (k : Nat) : Nat := if k = 17 ∨ k = 18 ∨ k = 19 then 2 else 1
def ar (k : Nat) : Nat := if k = 2 ∨ k = 3 then 0 else if rk k = 6 then 1 else if 13 ≤ k ∧ k ≤ 20 then pt k else 2
def unw (r : Nat) : List (Nat × Nat) → List (Nat × Int32) × List (Nat × Nat)
  | [] => ([], [])
  | w :: ws => if r ≤ rk w.1 then ((w.1, 0) :: (unw r ws).1, (unw r ws).2) else ([], w :: ws)
def addE (e : List (Nat × Int32)) (c : Nat) : Nat ⊕ List (Nat × Int32) → Nat ⊕ List (Nat × Int32)
  | Sum.inl i => Sum.inl (i + c)
  | Sum.inr E => Sum.inr (e ++ E)
def tr : List (Nat × Nat) → Nat
  | [] => 0
  | w :: _ => rk w.1
/-- what a token that joins does: none is a refusal; else the nodes put out, what waits, the commas due outside, and whether a part is wanted -/
def jn (k : Nat) (ws : List (Nat × Nat)) (o : Nat) : Option (List (Nat × Int32) × List (Nat × Nat) × Nat × Nat) :=
  if k = 41 then
    match (unw 1 ws).2 with
    | [] => none
    | w :: ws2 => if w.2 = 0 then
        (if w.1 = 40 then some ((unw 1 ws).1 ++ (unw 6 ws2).1, (unw 6 ws2).2, o, 0) else some ((unw 1 ws).1 ++ (w.1, 0) :: (unw 6 ws2).1, (unw 6 ws2).2, o, 0))
      else none
  else if k = 44 then
    match (unw 1 ws).2 with
    | [] => if o = 0 then none else some ((unw 1 ws).1, [], o - 1, 1)
    | w :: ws2 => if w.2 = 0 then none else some ((unw 1 ws).1, (w.1, w.2 - 1) :: ws2, o, 1)
  else if rk k = 0 ∨ rk k = 6 then none
  else if rk k = 3 then
    (if tr (unw 4 ws).2 = 3 then none else some ((unw 4 ws).1, (k, 0) :: (unw 4 ws).2, o, 1))
  else some ((unw (rk k) ws).1, (k, 0) :: (unw (rk k) ws).2, o, 1)
def run : List (Nat × Int32) → List (Nat × Nat) → Nat → Nat → Nat ⊕ List (Nat × Int32)
  | [], ws, o, m => if m = 0 ∧ o = 0 ∧ (unw 1 ws).2 = [] then Sum.inr (unw 1 ws).1 else Sum.inl 0
  | (k, v) :: ts, ws, o, m =>
    if m = 0 then
      match jn k ws o with
      | none => Sum.inl 0
      | some (e, ws2, o2, m2) => addE e 1 (run ts ws2 o2 m2)
    else if k = 2 ∨ k = 3 then addE ((k, v) :: (unw 6 ws).1) 1 (run ts (unw 6 ws).2 o 0)
    else if k = 45 then addE [] 1 (run ts ((21, 0) :: ws) o 1)
    else if k = 33 ∨ k = 64 ∨ k = 40 then addE [] 1 (run ts ((k, 0) :: ws) o 1)
    else if 13 ≤ k ∧ k ≤ 20 then
      match ts with
      | [] => Sum.inl 1
      | (k2, _) :: ts2 => if k2 = 40 then addE [] 2 (run ts2 ((k, pt k - 1) :: ws) o 1) else Sum.inl 1
    else Sum.inl 0
theorem rk_le (k : Nat) : rk k ≤ 6 := by
  unfold rk
  repeat' split
  all_goals omega
theorem rk_lt {k : Nat} (h : 1 ≤ rk k) : k < 125 := by
  unfold rk at h
  repeat' split at h
  all_goals omega
theorem rk_40 : rk 40 = 0 := by decide
theorem rk_fn {k : Nat} (h : 13 ≤ k) (h2 : k ≤ 20) : rk k = 0 := by
  have : ∀ k, k ≤ 20 → 13 ≤ k → rk k = 0 := by decide
  exact this k h2 h
theorem pt_le (k : Nat) : 1 ≤ pt k ∧ pt k ≤ 2 := by
  unfold pt
  split <;> omega
def okW (w : Nat × Nat) : Prop := (1 ≤ rk w.1 ∧ w.2 = 0) ∨ (w.1 = 40 ∧ w.2 = 0) ∨ (13 ≤ w.1 ∧ w.1 ≤ 20 ∧ w.2 + 1 ≤ pt w.1)
def allW : List (Nat × Nat) → Prop
  | [] => True
  | w :: ws => okW w ∧ allW ws
/-- what waits is sorted between two brackets -/
def srt : List (Nat × Nat) → Prop
  | [] => True
  | w :: ws => (1 ≤ rk w.1 → rk w.1 ≤ 5 → tr ws < rk w.1) ∧ srt ws
def dw (w : Nat × Nat) : Nat := if rk w.1 = 6 then 0 else if 1 ≤ rk w.1 then 1 else if w.1 = 40 then 0 else pt w.1 - 1 - w.2
/-- how many values what waits has below it -/
def dW : List (Nat × Nat) → Nat
  | [] => 0
  | w :: ws => dw w + dW ws
theorem unw_tr (r : Nat) (h : 1 ≤ r) : ∀ ws, tr (unw r ws).2 < r := by
  intro ws
  induction ws with
  | nil => simp only [unw, tr]; omega
  | cons w ws ih =>
    unfold unw
    split
    · exact ih
    · show rk w.1 < r
      omega
theorem unw_all (r : Nat) : ∀ ws, allW ws → allW (unw r ws).2 := by
  intro ws
  induction ws with
  | nil => intro h; exact h
  | cons w ws ih =>
    intro h
    unfold unw
    split
    · exact ih h.2
    · exact h
theorem unw_srt (r : Nat) : ∀ ws, srt ws → srt (unw r ws).2 := by
  intro ws
  induction ws with
  | nil => intro h; exact h
  | cons w ws ih =>
    intro h
    unfold unw
    split
    · exact ih h.2
    · exact h
theorem unw_len (r : Nat) : ∀ ws, (unw r ws).1.length + (unw r ws).2.length = ws.length := by
  intro ws
  induction ws with
  | nil => rfl
  | cons w ws ih =>
    unfold unw
    split
    · simp only [List.length_cons]
      omega
    · simp only [List.length_nil, List.length_cons]
      omega
/-- a looser unwinding goes on where a tighter one stopped -/
theorem unw_unw {r r2 : Nat} (h : r2 ≤ r) : ∀ ws, unw r2 ws = ((unw r ws).1 ++ (unw r2 (unw r ws).2).1, (unw r2 (unw r ws).2).2) := by
  intro ws
  induction ws with
  | nil => rfl
  | cons w ws ih =>
    by_cases q : r ≤ rk w.1
    · have e1 : unw r (w :: ws) = ((w.1, 0) :: (unw r ws).1, (unw r ws).2) := by rw [unw, if_pos q]
      have e2 : unw r2 (w :: ws) = ((w.1, 0) :: (unw r2 ws).1, (unw r2 ws).2) := by rw [unw, if_pos (by omega)]
      rw [e1, e2, ih]
      rfl
    · have e1 : unw r (w :: ws) = ([], w :: ws) := by rw [unw, if_neg q]
      rw [e1]
      rfl
theorem unw_stop {r : Nat} {ws : List (Nat × Nat)} (h : tr ws < r) : unw r ws = ([], ws) := by
  cases ws with
  | nil => rfl
  | cons w ws => rw [unw, if_neg (by have : rk w.1 < r := h; omega)]
theorem unw_43 {ws : List (Nat × Nat)} (h : ¬ tr (unw 4 ws).2 = 3) : unw 3 ws = unw 4 ws := by
  rw [unw_unw (show 3 ≤ 4 by omega) ws, unw_stop (r := 3) (by have := unw_tr 4 (by omega) ws; omega), List.append_nil]
/-- one level's commas, its test, and the levels below -/
def hdl (o : Nat) : List (Nat × Nat) → Nat
  | [] => o
  | w :: ws => if rk w.1 = 0 then w.2 else hdl o ws
def flg : List (Nat × Nat) → Nat
  | [] => 0
  | w :: ws => if rk w.1 = 0 then 0 else (if rk w.1 = 3 then 1 else 0) + flg ws
def lv (o : Nat) : List (Nat × Nat) → List Nat
  | [] => [2 * o]
  | w :: ws => if rk w.1 = 0 then (2 * w.2) :: lv o ws else (if rk w.1 = 3 then ((lv o ws).headD 0 + 1) :: (lv o ws).tail else lv o ws)
def tll (o : Nat) : List (Nat × Nat) → List Nat
  | [] => []
  | w :: ws => if rk w.1 = 0 then lv o ws else tll o ws
theorem lv_eq (o : Nat) : ∀ ws, lv o ws = (2 * hdl o ws + flg ws) :: tll o ws := by
  intro ws
  induction ws with
  | nil => rfl
  | cons w ws ih =>
    unfold lv hdl flg tll
    by_cases q : rk w.1 = 0
    · simp only [if_pos q]; rfl
    · simp only [if_neg q]
      by_cases q2 : rk w.1 = 3
      · simp only [if_pos q2, ih, List.headD_cons, List.tail_cons]
        congr 1
        omega
      · simp only [if_neg q2, ih]
        congr 1
        omega
theorem unw_hdl {r : Nat} (h : 1 ≤ r) (o : Nat) : ∀ ws, hdl o (unw r ws).2 = hdl o ws := by
  intro ws
  induction ws with
  | nil => rfl
  | cons w ws ih =>
    unfold unw
    split
    · rw [ih, hdl, if_neg (by omega)]
    · rfl
theorem unw_tll {r : Nat} (h : 1 ≤ r) (o : Nat) : ∀ ws, tll o (unw r ws).2 = tll o ws := by
  intro ws
  induction ws with
  | nil => rfl
  | cons w ws ih =>
    unfold unw
    split
    · rw [ih, tll, if_neg (by omega)]
    · rfl
theorem unw_flg {r : Nat} (h : 4 ≤ r) : ∀ ws, flg (unw r ws).2 = flg ws := by
  intro ws
  induction ws with
  | nil => rfl
  | cons w ws ih =>
    unfold unw
    split
    · rw [ih, flg, if_neg (by omega), if_neg (by omega)]
      omega
    · rfl
/-- where the top is below a test, no test waits in the level; where it is a test, one -/
theorem srt_flg : ∀ ws, srt ws → (tr ws < 3 → flg ws = 0) ∧ (tr ws = 3 → flg ws = 1) := by
  intro ws
  induction ws with
  | nil => intro _; exact ⟨fun _ => rfl, fun h => absurd h (by decide)⟩
  | cons w ws ih =>
    intro h
    unfold flg
    show (rk w.1 < 3 → _) ∧ (rk w.1 = 3 → _)
    by_cases q : rk w.1 = 0
    · simp only [if_pos q]
      exact ⟨fun _ => trivial, fun z => by omega⟩
    · simp only [if_neg q]
      obtain ⟨i1, i2⟩ := ih h.2
      refine ⟨fun z => ?_, fun z => ?_⟩
      · have := h.1 (by omega) (by omega)
        rw [if_neg (by omega), i1 (by omega)]
      · have := h.1 (by omega) (by omega)
        rw [if_pos z, i1 (by omega)]
theorem flg_4 {ws : List (Nat × Nat)} (h : srt ws) : flg ws = if tr (unw 4 ws).2 = 3 then 1 else 0 := by
  have a := srt_flg _ (unw_srt 4 ws h)
  have b := unw_tr 4 (by omega) ws
  rw [← unw_flg (Nat.le_refl 4) ws]
  by_cases q : tr (unw 4 ws).2 = 3
  · rw [if_pos q, a.2 q]
  · rw [if_neg q, a.1 (by omega)]
theorem unw_flg0 {r : Nat} (h1 : 1 ≤ r) (h : r ≤ 3) {ws : List (Nat × Nat)} (hs : srt ws) : flg (unw r ws).2 = 0 := by
  have b := unw_tr r h1 ws
  exact (srt_flg _ (unw_srt r ws hs)).1 (by omega)
