/-! THE FIXED WORLD: judgement AW (the machine at pc with locals lv, operand stack st, in the world's state σ), its contracts ax_CI, ax_CV, and a row an instruction. Printed by wip/whole/gen_ax.py. -/
abbrev ax_X : Type := Program × Launch × Env × Room × State × MethodId × Array Value × List Frame × Method × Code
/-- a method: bytes, locals, its class, what it returns, the frames, locals' words, cells and slots that it has room for -/
abbrev ax_M : Type := ByteArray × Nat × String × Option FieldType × Nat × Nat × Nat × Nat
def ax_R (d : Nat × Nat × Nat × Nat) : Room := { frames := d.1, cells := d.2.2.1, slots := d.2.2.2, locals := d.2.1 }
def ax_C (x : ax_X) (μ : ax_M) (g : ax_G) (A : Nat → Prop) : Prop := match x, μ with
  | (p, _, _, R, s, m, args, _, meth, c), (cc, nL, own, ret, d) => p.tables.exec = Jvm.exec ∧ c.code = cc ∧ c.maxLocals = nL ∧ s.vm.findClass own = some m.cls ∧ (∀ w ∈ ax_T, w.before args s = true) ∧ meth.locks = false ∧ meth.sig.returnType = ret ∧ (∀ q : Nat, s.heap.size ≤ q → A q) ∧ ax_K g A s s.heap ∧ (d.1 ≤ R.frames ∧ d.2.1 ≤ R.locals ∧ d.2.2.1 ≤ R.cells ∧ d.2.2.2 ≤ R.slots)
def AW {τ : Type} (x : ax_X) (μ : ax_M) (g : ax_G) (A : Nat → Prop) (w : τ → va_W) (kk : Nat × Nat) (Q : State → Prop) (pc : Nat) (lv : List (Nat × Value)) (st : List Value) (σ : τ) : Prop := match x, μ with
  | (p, l, e, R, s, m, args, below, meth, c), (cc, nL, own, ret, d) => ax_C (p, l, e, R, s, m, args, below, meth, c) (cc, nL, own, ret, d) g A → (kk.1 ≤ d.2.2.1 ∧ kk.2 ≤ d.2.2.2) → ∀ (H : Heap) (locs : List Loc) (ls : Array Slot), va_P g.1 classes (w σ) H → va_D A (w σ) → va_S A s.heap H locs → lv_has ls nL lv → W p l e R s m args below meth c H locs kk.1 kk.2 Q (F0 m pc ls st)
def ax_B {τ : Type} (g : ax_G) (A : Nat → Prop) (w : τ → va_W) (σ : τ) (t : State) : Prop := va_P g.1 classes (w σ) t.heap ∧ va_D A (w σ)
def ax_QI {τ : Type} (x : ax_X) (μ : ax_M) (g : ax_G) (A : Nat → Prop) (w : τ → va_W) (post : Int32 → τ → Prop) : State → Prop := match x with
  | (_, _, _, _, s, _, args, below, _, _) => MQ below (va_Qi post (ax_B g A w) A) args s μ.2.2.2.2.2.2.1 μ.2.2.2.2.2.2.2 A
def ax_QV {τ : Type} (x : ax_X) (μ : ax_M) (g : ax_G) (A : Nat → Prop) (w : τ → va_W) (post : τ → Prop) : State → Prop := match x with
  | (_, _, _, _, s, _, args, below, _, _) => MQ below (va_Qv post (ax_B g A w) A) args s μ.2.2.2.2.2.2.1 μ.2.2.2.2.2.2.2 A
def ax_Pre {τ : Type} (g : ax_G) (w : τ → va_W) (σ : τ) (sz : Nat) (U : State) : Prop := U.heap.size = sz ∧ ax_K g (va_A (w σ) sz) U U.heap ∧ va_P g.1 classes (w σ) U.heap ∧ va_D (fun _ => True) (w σ)
/-- a method's contract in the fixed world: it answers an int -/
def ax_CI {τ : Type} (μ : ax_M) (g : ax_G) (y : MethodName) (w : τ → va_W) (av : List Value) (σ : τ) (post : Int32 → τ → Prop) : Prop := ∀ (l : Launch) (sz : Nat), Met l y (.code y μ.1 μ.2.1 μ.2.2.2.1 :: ax_T) (ax_R μ.2.2.2.2) (va_Pc av (ax_Pre g w σ sz)) (va_Qi post (ax_B g (va_A (w σ) sz) w) (va_A (w σ) sz)) μ.2.2.2.2.2.2.1 μ.2.2.2.2.2.2.2 (va_A (w σ) sz)
def ax_CV {τ : Type} (μ : ax_M) (g : ax_G) (y : MethodName) (w : τ → va_W) (av : List Value) (σ : τ) (post : τ → Prop) : Prop := ∀ (l : Launch) (sz : Nat), Met l y (.code y μ.1 μ.2.1 μ.2.2.2.1 :: ax_T) (ax_R μ.2.2.2.2) (va_Pc av (ax_Pre g w σ sz)) (va_Qv post (ax_B g (va_A (w σ) sz) w) (va_A (w σ) sz)) μ.2.2.2.2.2.2.1 μ.2.2.2.2.2.2.2 (va_A (w σ) sz)
section AX
variable {τ : Type} {x : ax_X} {μ : ax_M} {g : ax_G} {A : Nat → Prop} {w : τ → va_W} {kk : Nat × Nat} {Q : State → Prop} {pc n : Nat} {lv lv' : List (Nat × Value)} {rest : List Value} {σ : τ}

theorem aw_iconst {i : Int} {v : Int32} (hd : decode μ.1 pc = .ok (.iconst i, 1)) (hn : pc + 1 = n) (hv : Int32.ofInt i = v) (k : AW x μ g A w kk Q n lv (.int v :: rest) σ) : AW x μ g A w kk Q pc lv (rest) σ := by
  obtain ⟨p, l, e, R, s, m, args, below, meth, c⟩ := x
  obtain ⟨cc, nL, own, ret, d⟩ := μ
  subst hn
  intro hC hkk H locs ls hP hD hS hl
  obtain ⟨hx, hb, hml, hown, hts, hlk, hrt, hA, hK, hR⟩ := id hC
  exact lv_iconst hx hb hd hv (k hC hkk H locs ls hP hD hS hl)
theorem aw_bipush {i : Int} {v : Int32} (hd : decode μ.1 pc = .ok (.bipush i, 2)) (hn : pc + 2 = n) (hv : (Int8.ofInt i).toInt32 = v) (k : AW x μ g A w kk Q n lv (.int v :: rest) σ) : AW x μ g A w kk Q pc lv (rest) σ := by
  obtain ⟨p, l, e, R, s, m, args, below, meth, c⟩ := x
  obtain ⟨cc, nL, own, ret, d⟩ := μ
  subst hn
  intro hC hkk H locs ls hP hD hS hl
  obtain ⟨hx, hb, hml, hown, hts, hlk, hrt, hA, hK, hR⟩ := id hC
  exact lv_bipush hx hb hd hv (k hC hkk H locs ls hP hD hS hl)
theorem aw_sipush {i : Int} {v : Int32} (hd : decode μ.1 pc = .ok (.sipush i, 3)) (hn : pc + 3 = n) (hv : (Int16.ofInt i).toInt32 = v) (k : AW x μ g A w kk Q n lv (.int v :: rest) σ) : AW x μ g A w kk Q pc lv (rest) σ := by
  obtain ⟨p, l, e, R, s, m, args, below, meth, c⟩ := x
  obtain ⟨cc, nL, own, ret, d⟩ := μ
  subst hn
  intro hC hkk H locs ls hP hD hS hl
  obtain ⟨hx, hb, hml, hown, hts, hlk, hrt, hA, hK, hR⟩ := id hC
  exact lv_sipush hx hb hd hv (k hC hkk H locs ls hP hD hS hl)
theorem aw_lconst {i : Fin 2} {v : Int64} (hd : decode μ.1 pc = .ok (.lconst i, 1)) (hn : pc + 1 = n) (hv : Int64.ofNat (i : Nat) = v) (k : AW x μ g A w kk Q n lv (.long v :: rest) σ) : AW x μ g A w kk Q pc lv (rest) σ := by
  obtain ⟨p, l, e, R, s, m, args, below, meth, c⟩ := x
  obtain ⟨cc, nL, own, ret, d⟩ := μ
  subst hn
  intro hC hkk H locs ls hP hD hS hl
  obtain ⟨hx, hb, hml, hown, hts, hlk, hrt, hA, hK, hR⟩ := id hC
  exact lv_lconst hx hb hd hv (k hC hkk H locs ls hP hD hS hl)
theorem aw_ldc {i : Nat} {v : Int32} (hd : decode μ.1 pc = .ok (.ldc i, 2)) (hn : pc + 2 = n) (hw : Jvm.Cond.constant μ.2.2.1 i v ∈ ax_T) (k : AW x μ g A w kk Q n lv (.int v :: rest) σ) : AW x μ g A w kk Q pc lv (rest) σ := by
  obtain ⟨p, l, e, R, s, m, args, below, meth, c⟩ := x
  obtain ⟨cc, nL, own, ret, d⟩ := μ
  subst hn
  intro hC hkk H locs ls hP hD hS hl
  obtain ⟨hx, hb, hml, hown, hts, hlk, hrt, hA, hK, hR⟩ := id hC
  exact lv_ldc hx hb hown (hts _ hw) hd (k hC hkk H locs ls hP hD hS hl)
theorem aw_ldcw {i : Nat} {v : Int32} (hd : decode μ.1 pc = .ok (.ldc_w i, 3)) (hn : pc + 3 = n) (hw : Jvm.Cond.constant μ.2.2.1 i v ∈ ax_T) (k : AW x μ g A w kk Q n lv (.int v :: rest) σ) : AW x μ g A w kk Q pc lv (rest) σ := by
  obtain ⟨p, l, e, R, s, m, args, below, meth, c⟩ := x
  obtain ⟨cc, nL, own, ret, d⟩ := μ
  subst hn
  intro hC hkk H locs ls hP hD hS hl
  obtain ⟨hx, hb, hml, hown, hts, hlk, hrt, hA, hK, hR⟩ := id hC
  exact lv_ldcw hx hb hown (hts _ hw) hd (k hC hkk H locs ls hP hD hS hl)
theorem aw_ldc2 {i : Nat} {v : Int64} (hd : decode μ.1 pc = .ok (.ldc2_w i, 3)) (hn : pc + 3 = n) (hw : Jvm.Cond.constantLong μ.2.2.1 i v ∈ ax_T) (k : AW x μ g A w kk Q n lv (.long v :: rest) σ) : AW x μ g A w kk Q pc lv (rest) σ := by
  obtain ⟨p, l, e, R, s, m, args, below, meth, c⟩ := x
  obtain ⟨cc, nL, own, ret, d⟩ := μ
  subst hn
  intro hC hkk H locs ls hP hD hS hl
  obtain ⟨hx, hb, hml, hown, hts, hlk, hrt, hA, hK, hR⟩ := id hC
  exact lv_ldc2 hx hb hown (hts _ hw) hd (k hC hkk H locs ls hP hD hS hl)
theorem aw_iload_n {f : Fin 4} {i : Nat} {v : Int32} (hd : decode μ.1 pc = .ok (.iload_n f, 1)) (hn : pc + 1 = n) (hi : (f : Nat) = i) (j : Nat) (hj : lv[j]? = some (i, .int v)) (k : AW x μ g A w kk Q n lv (.int v :: rest) σ) : AW x μ g A w kk Q pc lv (rest) σ := by
  obtain ⟨p, l, e, R, s, m, args, below, meth, c⟩ := x
  obtain ⟨cc, nL, own, ret, d⟩ := μ
  subst hn
  intro hC hkk H locs ls hP hD hS hl
  obtain ⟨hx, hb, hml, hown, hts, hlk, hrt, hA, hK, hR⟩ := id hC
  exact lv_iload_n hx hb hd hi (lv_at hl j hj) (k hC hkk H locs ls hP hD hS hl)
theorem aw_iload {i : Nat} {v : Int32} (hd : decode μ.1 pc = .ok (.iload i, 2)) (hn : pc + 2 = n) (j : Nat) (hj : lv[j]? = some (i, .int v)) (k : AW x μ g A w kk Q n lv (.int v :: rest) σ) : AW x μ g A w kk Q pc lv (rest) σ := by
  obtain ⟨p, l, e, R, s, m, args, below, meth, c⟩ := x
  obtain ⟨cc, nL, own, ret, d⟩ := μ
  subst hn
  intro hC hkk H locs ls hP hD hS hl
  obtain ⟨hx, hb, hml, hown, hts, hlk, hrt, hA, hK, hR⟩ := id hC
  exact lv_iload hx hb hd (lv_at hl j hj) (k hC hkk H locs ls hP hD hS hl)
theorem aw_lload_n {f : Fin 4} {i : Nat} {v : Int64} (hd : decode μ.1 pc = .ok (.lload_n f, 1)) (hn : pc + 1 = n) (hi : (f : Nat) = i) (j : Nat) (hj : lv[j]? = some (i, .long v)) (k : AW x μ g A w kk Q n lv (.long v :: rest) σ) : AW x μ g A w kk Q pc lv (rest) σ := by
  obtain ⟨p, l, e, R, s, m, args, below, meth, c⟩ := x
  obtain ⟨cc, nL, own, ret, d⟩ := μ
  subst hn
  intro hC hkk H locs ls hP hD hS hl
  obtain ⟨hx, hb, hml, hown, hts, hlk, hrt, hA, hK, hR⟩ := id hC
  exact lv_lload_n hx hb hd hi (lv_at hl j hj) (k hC hkk H locs ls hP hD hS hl)
theorem aw_lload {i : Nat} {v : Int64} (hd : decode μ.1 pc = .ok (.lload i, 2)) (hn : pc + 2 = n) (j : Nat) (hj : lv[j]? = some (i, .long v)) (k : AW x μ g A w kk Q n lv (.long v :: rest) σ) : AW x μ g A w kk Q pc lv (rest) σ := by
  obtain ⟨p, l, e, R, s, m, args, below, meth, c⟩ := x
  obtain ⟨cc, nL, own, ret, d⟩ := μ
  subst hn
  intro hC hkk H locs ls hP hD hS hl
  obtain ⟨hx, hb, hml, hown, hts, hlk, hrt, hA, hK, hR⟩ := id hC
  exact lv_lload hx hb hd (lv_at hl j hj) (k hC hkk H locs ls hP hD hS hl)
theorem aw_aload_n {f : Fin 4} {i : Nat} {v : Nat} (hd : decode μ.1 pc = .ok (.aload_n f, 1)) (hn : pc + 1 = n) (hi : (f : Nat) = i) (j : Nat) (hj : lv[j]? = some (i, .ref v)) (k : AW x μ g A w kk Q n lv (.ref v :: rest) σ) : AW x μ g A w kk Q pc lv (rest) σ := by
  obtain ⟨p, l, e, R, s, m, args, below, meth, c⟩ := x
  obtain ⟨cc, nL, own, ret, d⟩ := μ
  subst hn
  intro hC hkk H locs ls hP hD hS hl
  obtain ⟨hx, hb, hml, hown, hts, hlk, hrt, hA, hK, hR⟩ := id hC
  exact lv_aload_n hx hb hd hi (lv_at hl j hj) (k hC hkk H locs ls hP hD hS hl)
theorem aw_aload {i : Nat} {v : Nat} (hd : decode μ.1 pc = .ok (.aload i, 2)) (hn : pc + 2 = n) (j : Nat) (hj : lv[j]? = some (i, .ref v)) (k : AW x μ g A w kk Q n lv (.ref v :: rest) σ) : AW x μ g A w kk Q pc lv (rest) σ := by
  obtain ⟨p, l, e, R, s, m, args, below, meth, c⟩ := x
  obtain ⟨cc, nL, own, ret, d⟩ := μ
  subst hn
  intro hC hkk H locs ls hP hD hS hl
  obtain ⟨hx, hb, hml, hown, hts, hlk, hrt, hA, hK, hR⟩ := id hC
  exact lv_aload hx hb hd (lv_at hl j hj) (k hC hkk H locs ls hP hD hS hl)
theorem aw_istore_n {f : Fin 4} {i : Nat} {v : Int32} (hd : decode μ.1 pc = .ok (.istore_n f, 1)) (hn : pc + 1 = n) (hi : (f : Nat) = i) (hj : i < μ.2.1) (hf : (i, Value.int v) :: lv.filter (fun q => !(q.1 == i) && !(q.1 + 1 == i && q.2.category == 2)) = lv') (k : AW x μ g A w kk Q n lv' (rest) σ) : AW x μ g A w kk Q pc lv (.int v :: rest) σ := by
  obtain ⟨p, l, e, R, s, m, args, below, meth, c⟩ := x
  obtain ⟨cc, nL, own, ret, d⟩ := μ
  subst hn
  intro hC hkk H locs ls hP hD hS hl
  obtain ⟨hx, hb, hml, hown, hts, hlk, hrt, hA, hK, hR⟩ := id hC
  exact lv_istore_n hx hb hd hi hl hj hf (fun ls hl => k hC hkk H locs ls hP hD hS hl)
theorem aw_istore {i : Nat} {v : Int32} (hd : decode μ.1 pc = .ok (.istore i, 2)) (hn : pc + 2 = n) (hj : i < μ.2.1) (hf : (i, Value.int v) :: lv.filter (fun q => !(q.1 == i) && !(q.1 + 1 == i && q.2.category == 2)) = lv') (k : AW x μ g A w kk Q n lv' (rest) σ) : AW x μ g A w kk Q pc lv (.int v :: rest) σ := by
  obtain ⟨p, l, e, R, s, m, args, below, meth, c⟩ := x
  obtain ⟨cc, nL, own, ret, d⟩ := μ
  subst hn
  intro hC hkk H locs ls hP hD hS hl
  obtain ⟨hx, hb, hml, hown, hts, hlk, hrt, hA, hK, hR⟩ := id hC
  exact lv_istore hx hb hd hl hj hf (fun ls hl => k hC hkk H locs ls hP hD hS hl)
theorem aw_astore_n {f : Fin 4} {i : Nat} {v : Nat} (hd : decode μ.1 pc = .ok (.astore_n f, 1)) (hn : pc + 1 = n) (hi : (f : Nat) = i) (hj : i < μ.2.1) (hf : (i, Value.ref v) :: lv.filter (fun q => !(q.1 == i) && !(q.1 + 1 == i && q.2.category == 2)) = lv') (k : AW x μ g A w kk Q n lv' (rest) σ) : AW x μ g A w kk Q pc lv (.ref v :: rest) σ := by
  obtain ⟨p, l, e, R, s, m, args, below, meth, c⟩ := x
  obtain ⟨cc, nL, own, ret, d⟩ := μ
  subst hn
  intro hC hkk H locs ls hP hD hS hl
  obtain ⟨hx, hb, hml, hown, hts, hlk, hrt, hA, hK, hR⟩ := id hC
  exact lv_astore_n hx hb hd hi hl hj hf (fun ls hl => k hC hkk H locs ls hP hD hS hl)
theorem aw_astore {i : Nat} {v : Nat} (hd : decode μ.1 pc = .ok (.astore i, 2)) (hn : pc + 2 = n) (hj : i < μ.2.1) (hf : (i, Value.ref v) :: lv.filter (fun q => !(q.1 == i) && !(q.1 + 1 == i && q.2.category == 2)) = lv') (k : AW x μ g A w kk Q n lv' (rest) σ) : AW x μ g A w kk Q pc lv (.ref v :: rest) σ := by
  obtain ⟨p, l, e, R, s, m, args, below, meth, c⟩ := x
  obtain ⟨cc, nL, own, ret, d⟩ := μ
  subst hn
  intro hC hkk H locs ls hP hD hS hl
  obtain ⟨hx, hb, hml, hown, hts, hlk, hrt, hA, hK, hR⟩ := id hC
  exact lv_astore hx hb hd hl hj hf (fun ls hl => k hC hkk H locs ls hP hD hS hl)
theorem aw_iinc {i j : Nat} {z : Int} {u v : Int32} (hd : decode μ.1 pc = .ok (.iinc i z, 3)) (hn : pc + 3 = n) (hj : lv[j]? = some (i, .int u)) (hv : u + Int32.ofInt z = v) (hi : i < μ.2.1) (hf : (i, Value.int v) :: lv.filter (fun q => !(q.1 == i) && !(q.1 + 1 == i && q.2.category == 2)) = lv') (k : AW x μ g A w kk Q n lv' rest σ) : AW x μ g A w kk Q pc lv rest σ := by
  obtain ⟨p, l, e, R, s, m, args, below, meth, c⟩ := x
  obtain ⟨cc, nL, own, ret, d⟩ := μ
  subst hn
  intro hC hkk H locs ls hP hD hS hl
  obtain ⟨hx, hb, hml, hown, hts, hlk, hrt, hA, hK, hR⟩ := id hC
  exact lv_iinc hx hb hd hl hj hv hi hf (fun ls hl => k hC hkk H locs ls hP hD hS hl)
theorem aw_iadd {u v : Int32} (hd : decode μ.1 pc = .ok (.iadd, 1)) (hn : pc + 1 = n) (k : AW x μ g A w kk Q n lv (.int (u + v) :: rest) σ) : AW x μ g A w kk Q pc lv (.int v :: .int u :: rest) σ := by
  obtain ⟨p, l, e, R, s, m, args, below, meth, c⟩ := x
  obtain ⟨cc, nL, own, ret, d⟩ := μ
  subst hn
  intro hC hkk H locs ls hP hD hS hl
  obtain ⟨hx, hb, hml, hown, hts, hlk, hrt, hA, hK, hR⟩ := id hC
  exact lv_iadd hx hb hd (k hC hkk H locs ls hP hD hS hl)
theorem aw_isub {u v : Int32} (hd : decode μ.1 pc = .ok (.isub, 1)) (hn : pc + 1 = n) (k : AW x μ g A w kk Q n lv (.int (u - v) :: rest) σ) : AW x μ g A w kk Q pc lv (.int v :: .int u :: rest) σ := by
  obtain ⟨p, l, e, R, s, m, args, below, meth, c⟩ := x
  obtain ⟨cc, nL, own, ret, d⟩ := μ
  subst hn
  intro hC hkk H locs ls hP hD hS hl
  obtain ⟨hx, hb, hml, hown, hts, hlk, hrt, hA, hK, hR⟩ := id hC
  exact lv_isub hx hb hd (k hC hkk H locs ls hP hD hS hl)
theorem aw_imul {u v : Int32} (hd : decode μ.1 pc = .ok (.imul, 1)) (hn : pc + 1 = n) (k : AW x μ g A w kk Q n lv (.int (u * v) :: rest) σ) : AW x μ g A w kk Q pc lv (.int v :: .int u :: rest) σ := by
  obtain ⟨p, l, e, R, s, m, args, below, meth, c⟩ := x
  obtain ⟨cc, nL, own, ret, d⟩ := μ
  subst hn
  intro hC hkk H locs ls hP hD hS hl
  obtain ⟨hx, hb, hml, hown, hts, hlk, hrt, hA, hK, hR⟩ := id hC
  exact lv_imul hx hb hd (k hC hkk H locs ls hP hD hS hl)
theorem aw_iand {u v : Int32} (hd : decode μ.1 pc = .ok (.iand, 1)) (hn : pc + 1 = n) (k : AW x μ g A w kk Q n lv (.int (u &&& v) :: rest) σ) : AW x μ g A w kk Q pc lv (.int v :: .int u :: rest) σ := by
  obtain ⟨p, l, e, R, s, m, args, below, meth, c⟩ := x
  obtain ⟨cc, nL, own, ret, d⟩ := μ
  subst hn
  intro hC hkk H locs ls hP hD hS hl
  obtain ⟨hx, hb, hml, hown, hts, hlk, hrt, hA, hK, hR⟩ := id hC
  exact lv_iand hx hb hd (k hC hkk H locs ls hP hD hS hl)
theorem aw_ior {u v : Int32} (hd : decode μ.1 pc = .ok (.ior, 1)) (hn : pc + 1 = n) (k : AW x μ g A w kk Q n lv (.int (u ||| v) :: rest) σ) : AW x μ g A w kk Q pc lv (.int v :: .int u :: rest) σ := by
  obtain ⟨p, l, e, R, s, m, args, below, meth, c⟩ := x
  obtain ⟨cc, nL, own, ret, d⟩ := μ
  subst hn
  intro hC hkk H locs ls hP hD hS hl
  obtain ⟨hx, hb, hml, hown, hts, hlk, hrt, hA, hK, hR⟩ := id hC
  exact lv_ior hx hb hd (k hC hkk H locs ls hP hD hS hl)
theorem aw_ixor {u v : Int32} (hd : decode μ.1 pc = .ok (.ixor, 1)) (hn : pc + 1 = n) (k : AW x μ g A w kk Q n lv (.int (u ^^^ v) :: rest) σ) : AW x μ g A w kk Q pc lv (.int v :: .int u :: rest) σ := by
  obtain ⟨p, l, e, R, s, m, args, below, meth, c⟩ := x
  obtain ⟨cc, nL, own, ret, d⟩ := μ
  subst hn
  intro hC hkk H locs ls hP hD hS hl
  obtain ⟨hx, hb, hml, hown, hts, hlk, hrt, hA, hK, hR⟩ := id hC
  exact lv_ixor hx hb hd (k hC hkk H locs ls hP hD hS hl)
theorem aw_ishl {u v : Int32} (hd : decode μ.1 pc = .ok (.ishl, 1)) (hn : pc + 1 = n) (k : AW x μ g A w kk Q n lv (.int (u <<< (v &&& 31)) :: rest) σ) : AW x μ g A w kk Q pc lv (.int v :: .int u :: rest) σ := by
  obtain ⟨p, l, e, R, s, m, args, below, meth, c⟩ := x
  obtain ⟨cc, nL, own, ret, d⟩ := μ
  subst hn
  intro hC hkk H locs ls hP hD hS hl
  obtain ⟨hx, hb, hml, hown, hts, hlk, hrt, hA, hK, hR⟩ := id hC
  exact lv_ishl hx hb hd (k hC hkk H locs ls hP hD hS hl)
theorem aw_ishr {u v : Int32} (hd : decode μ.1 pc = .ok (.ishr, 1)) (hn : pc + 1 = n) (k : AW x μ g A w kk Q n lv (.int (u >>> (v &&& 31)) :: rest) σ) : AW x μ g A w kk Q pc lv (.int v :: .int u :: rest) σ := by
  obtain ⟨p, l, e, R, s, m, args, below, meth, c⟩ := x
  obtain ⟨cc, nL, own, ret, d⟩ := μ
  subst hn
  intro hC hkk H locs ls hP hD hS hl
  obtain ⟨hx, hb, hml, hown, hts, hlk, hrt, hA, hK, hR⟩ := id hC
  exact lv_ishr hx hb hd (k hC hkk H locs ls hP hD hS hl)
theorem aw_idiv {u v : Int32} (hd : decode μ.1 pc = .ok (.idiv, 1)) (hn : pc + 1 = n) (h0 : ¬ v = 0) (k : AW x μ g A w kk Q n lv (.int (u / v) :: rest) σ) : AW x μ g A w kk Q pc lv (.int v :: .int u :: rest) σ := by
  obtain ⟨p, l, e, R, s, m, args, below, meth, c⟩ := x
  obtain ⟨cc, nL, own, ret, d⟩ := μ
  subst hn
  intro hC hkk H locs ls hP hD hS hl
  obtain ⟨hx, hb, hml, hown, hts, hlk, hrt, hA, hK, hR⟩ := id hC
  exact lv_idiv hx hb hd h0 (k hC hkk H locs ls hP hD hS hl)
theorem aw_irem {u v : Int32} (hd : decode μ.1 pc = .ok (.irem, 1)) (hn : pc + 1 = n) (h0 : ¬ v = 0) (k : AW x μ g A w kk Q n lv (.int (u - u / v * v) :: rest) σ) : AW x μ g A w kk Q pc lv (.int v :: .int u :: rest) σ := by
  obtain ⟨p, l, e, R, s, m, args, below, meth, c⟩ := x
  obtain ⟨cc, nL, own, ret, d⟩ := μ
  subst hn
  intro hC hkk H locs ls hP hD hS hl
  obtain ⟨hx, hb, hml, hown, hts, hlk, hrt, hA, hK, hR⟩ := id hC
  exact lv_irem hx hb hd h0 (k hC hkk H locs ls hP hD hS hl)
theorem aw_ineg {u : Int32} (hd : decode μ.1 pc = .ok (.ineg, 1)) (hn : pc + 1 = n) (k : AW x μ g A w kk Q n lv (.int (-u) :: rest) σ) : AW x μ g A w kk Q pc lv (.int u :: rest) σ := by
  obtain ⟨p, l, e, R, s, m, args, below, meth, c⟩ := x
  obtain ⟨cc, nL, own, ret, d⟩ := μ
  subst hn
  intro hC hkk H locs ls hP hD hS hl
  obtain ⟨hx, hb, hml, hown, hts, hlk, hrt, hA, hK, hR⟩ := id hC
  exact lv_ineg hx hb hd (k hC hkk H locs ls hP hD hS hl)
theorem aw_iushr {u v z : Int32} (hd : decode μ.1 pc = .ok (.iushr, 1)) (hn : pc + 1 = n) (hv : (u.toUInt32 >>> (v.toUInt32 &&& Int32.toUInt32 31)).toInt32 = z) (k : AW x μ g A w kk Q n lv (.int z :: rest) σ) : AW x μ g A w kk Q pc lv (.int v :: .int u :: rest) σ := by
  obtain ⟨p, l, e, R, s, m, args, below, meth, c⟩ := x
  obtain ⟨cc, nL, own, ret, d⟩ := μ
  subst hn
  intro hC hkk H locs ls hP hD hS hl
  obtain ⟨hx, hb, hml, hown, hts, hlk, hrt, hA, hK, hR⟩ := id hC
  exact lv_iushr hx hb hd hv (k hC hkk H locs ls hP hD hS hl)
theorem aw_ladd {u v : Int64} (hd : decode μ.1 pc = .ok (.ladd, 1)) (hn : pc + 1 = n) (k : AW x μ g A w kk Q n lv (.long (u + v) :: rest) σ) : AW x μ g A w kk Q pc lv (.long v :: .long u :: rest) σ := by
  obtain ⟨p, l, e, R, s, m, args, below, meth, c⟩ := x
  obtain ⟨cc, nL, own, ret, d⟩ := μ
  subst hn
  intro hC hkk H locs ls hP hD hS hl
  obtain ⟨hx, hb, hml, hown, hts, hlk, hrt, hA, hK, hR⟩ := id hC
  exact lv_ladd hx hb hd (k hC hkk H locs ls hP hD hS hl)
theorem aw_lsub {u v : Int64} (hd : decode μ.1 pc = .ok (.lsub, 1)) (hn : pc + 1 = n) (k : AW x μ g A w kk Q n lv (.long (u - v) :: rest) σ) : AW x μ g A w kk Q pc lv (.long v :: .long u :: rest) σ := by
  obtain ⟨p, l, e, R, s, m, args, below, meth, c⟩ := x
  obtain ⟨cc, nL, own, ret, d⟩ := μ
  subst hn
  intro hC hkk H locs ls hP hD hS hl
  obtain ⟨hx, hb, hml, hown, hts, hlk, hrt, hA, hK, hR⟩ := id hC
  exact lv_lsub hx hb hd (k hC hkk H locs ls hP hD hS hl)
theorem aw_lmul {u v : Int64} (hd : decode μ.1 pc = .ok (.lmul, 1)) (hn : pc + 1 = n) (k : AW x μ g A w kk Q n lv (.long (u * v) :: rest) σ) : AW x μ g A w kk Q pc lv (.long v :: .long u :: rest) σ := by
  obtain ⟨p, l, e, R, s, m, args, below, meth, c⟩ := x
  obtain ⟨cc, nL, own, ret, d⟩ := μ
  subst hn
  intro hC hkk H locs ls hP hD hS hl
  obtain ⟨hx, hb, hml, hown, hts, hlk, hrt, hA, hK, hR⟩ := id hC
  exact lv_lmul hx hb hd (k hC hkk H locs ls hP hD hS hl)
theorem aw_land {u v : Int64} (hd : decode μ.1 pc = .ok (.land, 1)) (hn : pc + 1 = n) (k : AW x μ g A w kk Q n lv (.long (u &&& v) :: rest) σ) : AW x μ g A w kk Q pc lv (.long v :: .long u :: rest) σ := by
  obtain ⟨p, l, e, R, s, m, args, below, meth, c⟩ := x
  obtain ⟨cc, nL, own, ret, d⟩ := μ
  subst hn
  intro hC hkk H locs ls hP hD hS hl
  obtain ⟨hx, hb, hml, hown, hts, hlk, hrt, hA, hK, hR⟩ := id hC
  exact lv_land hx hb hd (k hC hkk H locs ls hP hD hS hl)
theorem aw_lor {u v : Int64} (hd : decode μ.1 pc = .ok (.lor, 1)) (hn : pc + 1 = n) (k : AW x μ g A w kk Q n lv (.long (u ||| v) :: rest) σ) : AW x μ g A w kk Q pc lv (.long v :: .long u :: rest) σ := by
  obtain ⟨p, l, e, R, s, m, args, below, meth, c⟩ := x
  obtain ⟨cc, nL, own, ret, d⟩ := μ
  subst hn
  intro hC hkk H locs ls hP hD hS hl
  obtain ⟨hx, hb, hml, hown, hts, hlk, hrt, hA, hK, hR⟩ := id hC
  exact lv_lor hx hb hd (k hC hkk H locs ls hP hD hS hl)
theorem aw_ldiv {u v : Int64} (hd : decode μ.1 pc = .ok (.ldiv, 1)) (hn : pc + 1 = n) (h0 : ¬ v = 0) (k : AW x μ g A w kk Q n lv (.long (u / v) :: rest) σ) : AW x μ g A w kk Q pc lv (.long v :: .long u :: rest) σ := by
  obtain ⟨p, l, e, R, s, m, args, below, meth, c⟩ := x
  obtain ⟨cc, nL, own, ret, d⟩ := μ
  subst hn
  intro hC hkk H locs ls hP hD hS hl
  obtain ⟨hx, hb, hml, hown, hts, hlk, hrt, hA, hK, hR⟩ := id hC
  exact lv_ldiv hx hb hd h0 (k hC hkk H locs ls hP hD hS hl)
theorem aw_lshr {u z : Int64} {v : Int32} (hd : decode μ.1 pc = .ok (.lshr, 1)) (hn : pc + 1 = n) (hv : u >>> (v.toInt64 &&& 63) = z) (k : AW x μ g A w kk Q n lv (.long z :: rest) σ) : AW x μ g A w kk Q pc lv (.int v :: .long u :: rest) σ := by
  obtain ⟨p, l, e, R, s, m, args, below, meth, c⟩ := x
  obtain ⟨cc, nL, own, ret, d⟩ := μ
  subst hn
  intro hC hkk H locs ls hP hD hS hl
  obtain ⟨hx, hb, hml, hown, hts, hlk, hrt, hA, hK, hR⟩ := id hC
  exact lv_lshr hx hb hd hv (k hC hkk H locs ls hP hD hS hl)
theorem aw_lshl {u z : Int64} {v : Int32} (hd : decode μ.1 pc = .ok (.lshl, 1)) (hn : pc + 1 = n) (hv : u <<< (v.toInt64 &&& 63) = z) (k : AW x μ g A w kk Q n lv (.long z :: rest) σ) : AW x μ g A w kk Q pc lv (.int v :: .long u :: rest) σ := by
  obtain ⟨p, l, e, R, s, m, args, below, meth, c⟩ := x
  obtain ⟨cc, nL, own, ret, d⟩ := μ
  subst hn
  intro hC hkk H locs ls hP hD hS hl
  obtain ⟨hx, hb, hml, hown, hts, hlk, hrt, hA, hK, hR⟩ := id hC
  exact lv_lshl hx hb hd hv (k hC hkk H locs ls hP hD hS hl)
theorem aw_i2l {u : Int32} {z : Int64} (hd : decode μ.1 pc = .ok (.i2l, 1)) (hn : pc + 1 = n) (hv : u.toInt64 = z) (k : AW x μ g A w kk Q n lv (.long z :: rest) σ) : AW x μ g A w kk Q pc lv (.int u :: rest) σ := by
  obtain ⟨p, l, e, R, s, m, args, below, meth, c⟩ := x
  obtain ⟨cc, nL, own, ret, d⟩ := μ
  subst hn
  intro hC hkk H locs ls hP hD hS hl
  obtain ⟨hx, hb, hml, hown, hts, hlk, hrt, hA, hK, hR⟩ := id hC
  exact lv_i2l hx hb hd hv (k hC hkk H locs ls hP hD hS hl)
theorem aw_l2i {u : Int64} {z : Int32} (hd : decode μ.1 pc = .ok (.l2i, 1)) (hn : pc + 1 = n) (hv : u.toInt32 = z) (k : AW x μ g A w kk Q n lv (.int z :: rest) σ) : AW x μ g A w kk Q pc lv (.long u :: rest) σ := by
  obtain ⟨p, l, e, R, s, m, args, below, meth, c⟩ := x
  obtain ⟨cc, nL, own, ret, d⟩ := μ
  subst hn
  intro hC hkk H locs ls hP hD hS hl
  obtain ⟨hx, hb, hml, hown, hts, hlk, hrt, hA, hK, hR⟩ := id hC
  exact lv_l2i hx hb hd hv (k hC hkk H locs ls hP hD hS hl)
theorem aw_i2c {u z : Int32} (hd : decode μ.1 pc = .ok (.i2c, 1)) (hn : pc + 1 = n) (hv : (u.toUInt32 % 65536).toInt32 = z) (k : AW x μ g A w kk Q n lv (.int z :: rest) σ) : AW x μ g A w kk Q pc lv (.int u :: rest) σ := by
  obtain ⟨p, l, e, R, s, m, args, below, meth, c⟩ := x
  obtain ⟨cc, nL, own, ret, d⟩ := μ
  subst hn
  intro hC hkk H locs ls hP hD hS hl
  obtain ⟨hx, hb, hml, hown, hts, hlk, hrt, hA, hK, hR⟩ := id hC
  exact lv_i2c hx hb hd hv (k hC hkk H locs ls hP hD hS hl)
theorem aw_i2b {u z : Int32} (hd : decode μ.1 pc = .ok (.i2b, 1)) (hn : pc + 1 = n) (hv : u.toInt8.toInt32 = z) (k : AW x μ g A w kk Q n lv (.int z :: rest) σ) : AW x μ g A w kk Q pc lv (.int u :: rest) σ := by
  obtain ⟨p, l, e, R, s, m, args, below, meth, c⟩ := x
  obtain ⟨cc, nL, own, ret, d⟩ := μ
  subst hn
  intro hC hkk H locs ls hP hD hS hl
  obtain ⟨hx, hb, hml, hown, hts, hlk, hrt, hA, hK, hR⟩ := id hC
  exact lv_i2b hx hb hd hv (k hC hkk H locs ls hP hD hS hl)
theorem aw_dup {va : Value} (hd : decode μ.1 pc = .ok (.dup, 1)) (hn : pc + 1 = n) (h1 : va.category = 1) (k : AW x μ g A w kk Q n lv (va :: va :: rest) σ) : AW x μ g A w kk Q pc lv (va :: rest) σ := by
  obtain ⟨p, l, e, R, s, m, args, below, meth, c⟩ := x
  obtain ⟨cc, nL, own, ret, d⟩ := μ
  subst hn
  intro hC hkk H locs ls hP hD hS hl
  obtain ⟨hx, hb, hml, hown, hts, hlk, hrt, hA, hK, hR⟩ := id hC
  exact lv_dup hx hb hd h1 (k hC hkk H locs ls hP hD hS hl)
theorem aw_pop {va : Value} (hd : decode μ.1 pc = .ok (.pop, 1)) (hn : pc + 1 = n) (h1 : va.category = 1) (k : AW x μ g A w kk Q n lv (rest) σ) : AW x μ g A w kk Q pc lv (va :: rest) σ := by
  obtain ⟨p, l, e, R, s, m, args, below, meth, c⟩ := x
  obtain ⟨cc, nL, own, ret, d⟩ := μ
  subst hn
  intro hC hkk H locs ls hP hD hS hl
  obtain ⟨hx, hb, hml, hown, hts, hlk, hrt, hA, hK, hR⟩ := id hC
  exact lv_pop hx hb hd h1 (k hC hkk H locs ls hP hD hS hl)
theorem aw_dup_x1 {va vb : Value} (hd : decode μ.1 pc = .ok (.dup_x1, 1)) (hn : pc + 1 = n) (h1 : va.category = 1) (h2 : vb.category = 1) (k : AW x μ g A w kk Q n lv (va :: vb :: va :: rest) σ) : AW x μ g A w kk Q pc lv (va :: vb :: rest) σ := by
  obtain ⟨p, l, e, R, s, m, args, below, meth, c⟩ := x
  obtain ⟨cc, nL, own, ret, d⟩ := μ
  subst hn
  intro hC hkk H locs ls hP hD hS hl
  obtain ⟨hx, hb, hml, hown, hts, hlk, hrt, hA, hK, hR⟩ := id hC
  exact lv_dup_x1 hx hb hd h1 h2 (k hC hkk H locs ls hP hD hS hl)
theorem aw_dup_x2 {va vb vd : Value} (hd : decode μ.1 pc = .ok (.dup_x2, 1)) (hn : pc + 1 = n) (h1 : va.category = 1) (h2 : vb.category = 1) (h3 : vd.category = 1) (k : AW x μ g A w kk Q n lv (va :: vb :: vd :: va :: rest) σ) : AW x μ g A w kk Q pc lv (va :: vb :: vd :: rest) σ := by
  obtain ⟨p, l, e, R, s, m, args, below, meth, c⟩ := x
  obtain ⟨cc, nL, own, ret, d⟩ := μ
  subst hn
  intro hC hkk H locs ls hP hD hS hl
  obtain ⟨hx, hb, hml, hown, hts, hlk, hrt, hA, hK, hR⟩ := id hC
  exact lv_dup_x2 hx hb hd h1 h2 h3 (k hC hkk H locs ls hP hD hS hl)
theorem aw_dup2 {va vb : Value} (hd : decode μ.1 pc = .ok (.dup2, 1)) (hn : pc + 1 = n) (h1 : va.category = 1) (h2 : vb.category = 1) (k : AW x μ g A w kk Q n lv (va :: vb :: va :: vb :: rest) σ) : AW x μ g A w kk Q pc lv (va :: vb :: rest) σ := by
  obtain ⟨p, l, e, R, s, m, args, below, meth, c⟩ := x
  obtain ⟨cc, nL, own, ret, d⟩ := μ
  subst hn
  intro hC hkk H locs ls hP hD hS hl
  obtain ⟨hx, hb, hml, hown, hts, hlk, hrt, hA, hK, hR⟩ := id hC
  exact lv_dup2_11 hx hb hd h1 h2 (k hC hkk H locs ls hP hD hS hl)
theorem aw_lrem {u v : Int64} (hd : decode μ.1 pc = .ok (.lrem, 1)) (hn : pc + 1 = n) (h0 : ¬ v = 0) (k : AW x μ g A w kk Q n lv (.long (u - u / v * v) :: rest) σ) : AW x μ g A w kk Q pc lv (.long v :: .long u :: rest) σ := by
  obtain ⟨p, l, e, R, s, m, args, below, meth, c⟩ := x
  obtain ⟨cc, nL, own, ret, d⟩ := μ
  subst hn
  intro hC hkk H locs ls hP hD hS hl
  obtain ⟨hx, hb, hml, hown, hts, hlk, hrt, hA, hK, hR⟩ := id hC
  exact lv_lrem hx hb hd h0 (k hC hkk H locs ls hP hD hS hl)
theorem aw_lcmp {u v : Int64} (hd : decode μ.1 pc = .ok (.lcmp, 1)) (hn : pc + 1 = n) (k : AW x μ g A w kk Q n lv (.int (lg_cmp u v) :: rest) σ) : AW x μ g A w kk Q pc lv (.long v :: .long u :: rest) σ := by
  obtain ⟨p, l, e, R, s, m, args, below, meth, c⟩ := x
  obtain ⟨cc, nL, own, ret, d⟩ := μ
  subst hn
  intro hC hkk H locs ls hP hD hS hl
  obtain ⟨hx, hb, hml, hown, hts, hlk, hrt, hA, hK, hR⟩ := id hC
  exact W.lcmp hx hb hd (k hC hkk H locs ls hP hD hS hl)
theorem aw_lstore_n {f : Fin 4} {i : Nat} {v : Int64} (hd : decode μ.1 pc = .ok (.lstore_n f, 1)) (hn : pc + 1 = n) (hi : (f : Nat) = i) (hj : i + 1 < μ.2.1) (hf : (i, Value.long v) :: lv.filter (fun q => !(q.1 == i) && (!(q.1 == i + 1) && !(q.1 + 1 == i && q.2.category == 2))) = lv') (k : AW x μ g A w kk Q n lv' (rest) σ) : AW x μ g A w kk Q pc lv (.long v :: rest) σ := by
  obtain ⟨p, l, e, R, s, m, args, below, meth, c⟩ := x
  obtain ⟨cc, nL, own, ret, d⟩ := μ
  subst hn
  intro hC hkk H locs ls hP hD hS hl
  obtain ⟨hx, hb, hml, hown, hts, hlk, hrt, hA, hK, hR⟩ := id hC
  exact lv_lstore_n hx hb hd hi hl hj hf (fun ls hl => k hC hkk H locs ls hP hD hS hl)
theorem aw_lstore {i : Nat} {v : Int64} (hd : decode μ.1 pc = .ok (.lstore i, 2)) (hn : pc + 2 = n) (hj : i + 1 < μ.2.1) (hf : (i, Value.long v) :: lv.filter (fun q => !(q.1 == i) && (!(q.1 == i + 1) && !(q.1 + 1 == i && q.2.category == 2))) = lv') (k : AW x μ g A w kk Q n lv' (rest) σ) : AW x μ g A w kk Q pc lv (.long v :: rest) σ := by
  obtain ⟨p, l, e, R, s, m, args, below, meth, c⟩ := x
  obtain ⟨cc, nL, own, ret, d⟩ := μ
  subst hn
  intro hC hkk H locs ls hP hD hS hl
  obtain ⟨hx, hb, hml, hown, hts, hlk, hrt, hA, hK, hR⟩ := id hC
  exact lv_lstore hx hb hd hl hj hf (fun ls hl => k hC hkk H locs ls hP hD hS hl)
theorem aw_if_eq {u : Int32} {off : Int} {t : Nat} (hd : decode μ.1 pc = .ok (.ifCond .eq off, 3)) (hn : pc + 3 = n) (ht : (pc : Int) + off = (t : Int)) (kt : u = 0 → AW x μ g A w kk Q t lv rest σ) (kf : ¬ u = 0 → AW x μ g A w kk Q n lv rest σ) : AW x μ g A w kk Q pc lv (.int u :: rest) σ := by
  obtain ⟨p, l, e, R, s, m, args, below, meth, c⟩ := x
  obtain ⟨cc, nL, own, ret, d⟩ := μ
  subst hn
  intro hC hkk H locs ls hP hD hS hl
  obtain ⟨hx, hb, hml, hown, hts, hlk, hrt, hA, hK, hR⟩ := id hC
  exact lv_if_eq hx hb hd ht (fun h => kt h hC hkk H locs ls hP hD hS hl) (fun h => kf h hC hkk H locs ls hP hD hS hl)
theorem aw_icmp_eq {u v : Int32} {off : Int} {t : Nat} (hd : decode μ.1 pc = .ok (.if_icmp .eq off, 3)) (hn : pc + 3 = n) (ht : (pc : Int) + off = (t : Int)) (kt : u = v → AW x μ g A w kk Q t lv rest σ) (kf : ¬ u = v → AW x μ g A w kk Q n lv rest σ) : AW x μ g A w kk Q pc lv (.int v :: .int u :: rest) σ := by
  obtain ⟨p, l, e, R, s, m, args, below, meth, c⟩ := x
  obtain ⟨cc, nL, own, ret, d⟩ := μ
  subst hn
  intro hC hkk H locs ls hP hD hS hl
  obtain ⟨hx, hb, hml, hown, hts, hlk, hrt, hA, hK, hR⟩ := id hC
  exact lv_icmp_eq hx hb hd ht (fun h => kt h hC hkk H locs ls hP hD hS hl) (fun h => kf h hC hkk H locs ls hP hD hS hl)
theorem aw_if_ne {u : Int32} {off : Int} {t : Nat} (hd : decode μ.1 pc = .ok (.ifCond .ne off, 3)) (hn : pc + 3 = n) (ht : (pc : Int) + off = (t : Int)) (kt : ¬ u = 0 → AW x μ g A w kk Q t lv rest σ) (kf : u = 0 → AW x μ g A w kk Q n lv rest σ) : AW x μ g A w kk Q pc lv (.int u :: rest) σ := by
  obtain ⟨p, l, e, R, s, m, args, below, meth, c⟩ := x
  obtain ⟨cc, nL, own, ret, d⟩ := μ
  subst hn
  intro hC hkk H locs ls hP hD hS hl
  obtain ⟨hx, hb, hml, hown, hts, hlk, hrt, hA, hK, hR⟩ := id hC
  exact lv_if_ne hx hb hd ht (fun h => kt h hC hkk H locs ls hP hD hS hl) (fun h => kf h hC hkk H locs ls hP hD hS hl)
theorem aw_icmp_ne {u v : Int32} {off : Int} {t : Nat} (hd : decode μ.1 pc = .ok (.if_icmp .ne off, 3)) (hn : pc + 3 = n) (ht : (pc : Int) + off = (t : Int)) (kt : ¬ u = v → AW x μ g A w kk Q t lv rest σ) (kf : u = v → AW x μ g A w kk Q n lv rest σ) : AW x μ g A w kk Q pc lv (.int v :: .int u :: rest) σ := by
  obtain ⟨p, l, e, R, s, m, args, below, meth, c⟩ := x
  obtain ⟨cc, nL, own, ret, d⟩ := μ
  subst hn
  intro hC hkk H locs ls hP hD hS hl
  obtain ⟨hx, hb, hml, hown, hts, hlk, hrt, hA, hK, hR⟩ := id hC
  exact lv_icmp_ne hx hb hd ht (fun h => kt h hC hkk H locs ls hP hD hS hl) (fun h => kf h hC hkk H locs ls hP hD hS hl)
theorem aw_if_lt {u : Int32} {off : Int} {t : Nat} (hd : decode μ.1 pc = .ok (.ifCond .lt off, 3)) (hn : pc + 3 = n) (ht : (pc : Int) + off = (t : Int)) (kt : u < 0 → AW x μ g A w kk Q t lv rest σ) (kf : ¬ u < 0 → AW x μ g A w kk Q n lv rest σ) : AW x μ g A w kk Q pc lv (.int u :: rest) σ := by
  obtain ⟨p, l, e, R, s, m, args, below, meth, c⟩ := x
  obtain ⟨cc, nL, own, ret, d⟩ := μ
  subst hn
  intro hC hkk H locs ls hP hD hS hl
  obtain ⟨hx, hb, hml, hown, hts, hlk, hrt, hA, hK, hR⟩ := id hC
  exact lv_if_lt hx hb hd ht (fun h => kt h hC hkk H locs ls hP hD hS hl) (fun h => kf h hC hkk H locs ls hP hD hS hl)
theorem aw_icmp_lt {u v : Int32} {off : Int} {t : Nat} (hd : decode μ.1 pc = .ok (.if_icmp .lt off, 3)) (hn : pc + 3 = n) (ht : (pc : Int) + off = (t : Int)) (kt : u < v → AW x μ g A w kk Q t lv rest σ) (kf : ¬ u < v → AW x μ g A w kk Q n lv rest σ) : AW x μ g A w kk Q pc lv (.int v :: .int u :: rest) σ := by
  obtain ⟨p, l, e, R, s, m, args, below, meth, c⟩ := x
  obtain ⟨cc, nL, own, ret, d⟩ := μ
  subst hn
  intro hC hkk H locs ls hP hD hS hl
  obtain ⟨hx, hb, hml, hown, hts, hlk, hrt, hA, hK, hR⟩ := id hC
  exact lv_icmp_lt hx hb hd ht (fun h => kt h hC hkk H locs ls hP hD hS hl) (fun h => kf h hC hkk H locs ls hP hD hS hl)
theorem aw_if_ge {u : Int32} {off : Int} {t : Nat} (hd : decode μ.1 pc = .ok (.ifCond .ge off, 3)) (hn : pc + 3 = n) (ht : (pc : Int) + off = (t : Int)) (kt : 0 ≤ u → AW x μ g A w kk Q t lv rest σ) (kf : ¬ 0 ≤ u → AW x μ g A w kk Q n lv rest σ) : AW x μ g A w kk Q pc lv (.int u :: rest) σ := by
  obtain ⟨p, l, e, R, s, m, args, below, meth, c⟩ := x
  obtain ⟨cc, nL, own, ret, d⟩ := μ
  subst hn
  intro hC hkk H locs ls hP hD hS hl
  obtain ⟨hx, hb, hml, hown, hts, hlk, hrt, hA, hK, hR⟩ := id hC
  exact lv_if_ge hx hb hd ht (fun h => kt h hC hkk H locs ls hP hD hS hl) (fun h => kf h hC hkk H locs ls hP hD hS hl)
theorem aw_icmp_ge {u v : Int32} {off : Int} {t : Nat} (hd : decode μ.1 pc = .ok (.if_icmp .ge off, 3)) (hn : pc + 3 = n) (ht : (pc : Int) + off = (t : Int)) (kt : v ≤ u → AW x μ g A w kk Q t lv rest σ) (kf : ¬ v ≤ u → AW x μ g A w kk Q n lv rest σ) : AW x μ g A w kk Q pc lv (.int v :: .int u :: rest) σ := by
  obtain ⟨p, l, e, R, s, m, args, below, meth, c⟩ := x
  obtain ⟨cc, nL, own, ret, d⟩ := μ
  subst hn
  intro hC hkk H locs ls hP hD hS hl
  obtain ⟨hx, hb, hml, hown, hts, hlk, hrt, hA, hK, hR⟩ := id hC
  exact lv_icmp_ge hx hb hd ht (fun h => kt h hC hkk H locs ls hP hD hS hl) (fun h => kf h hC hkk H locs ls hP hD hS hl)
theorem aw_if_gt {u : Int32} {off : Int} {t : Nat} (hd : decode μ.1 pc = .ok (.ifCond .gt off, 3)) (hn : pc + 3 = n) (ht : (pc : Int) + off = (t : Int)) (kt : 0 < u → AW x μ g A w kk Q t lv rest σ) (kf : ¬ 0 < u → AW x μ g A w kk Q n lv rest σ) : AW x μ g A w kk Q pc lv (.int u :: rest) σ := by
  obtain ⟨p, l, e, R, s, m, args, below, meth, c⟩ := x
  obtain ⟨cc, nL, own, ret, d⟩ := μ
  subst hn
  intro hC hkk H locs ls hP hD hS hl
  obtain ⟨hx, hb, hml, hown, hts, hlk, hrt, hA, hK, hR⟩ := id hC
  exact lv_if_gt hx hb hd ht (fun h => kt h hC hkk H locs ls hP hD hS hl) (fun h => kf h hC hkk H locs ls hP hD hS hl)
theorem aw_icmp_gt {u v : Int32} {off : Int} {t : Nat} (hd : decode μ.1 pc = .ok (.if_icmp .gt off, 3)) (hn : pc + 3 = n) (ht : (pc : Int) + off = (t : Int)) (kt : v < u → AW x μ g A w kk Q t lv rest σ) (kf : ¬ v < u → AW x μ g A w kk Q n lv rest σ) : AW x μ g A w kk Q pc lv (.int v :: .int u :: rest) σ := by
  obtain ⟨p, l, e, R, s, m, args, below, meth, c⟩ := x
  obtain ⟨cc, nL, own, ret, d⟩ := μ
  subst hn
  intro hC hkk H locs ls hP hD hS hl
  obtain ⟨hx, hb, hml, hown, hts, hlk, hrt, hA, hK, hR⟩ := id hC
  exact lv_icmp_gt hx hb hd ht (fun h => kt h hC hkk H locs ls hP hD hS hl) (fun h => kf h hC hkk H locs ls hP hD hS hl)
theorem aw_if_le {u : Int32} {off : Int} {t : Nat} (hd : decode μ.1 pc = .ok (.ifCond .le off, 3)) (hn : pc + 3 = n) (ht : (pc : Int) + off = (t : Int)) (kt : u ≤ 0 → AW x μ g A w kk Q t lv rest σ) (kf : ¬ u ≤ 0 → AW x μ g A w kk Q n lv rest σ) : AW x μ g A w kk Q pc lv (.int u :: rest) σ := by
  obtain ⟨p, l, e, R, s, m, args, below, meth, c⟩ := x
  obtain ⟨cc, nL, own, ret, d⟩ := μ
  subst hn
  intro hC hkk H locs ls hP hD hS hl
  obtain ⟨hx, hb, hml, hown, hts, hlk, hrt, hA, hK, hR⟩ := id hC
  exact lv_if_le hx hb hd ht (fun h => kt h hC hkk H locs ls hP hD hS hl) (fun h => kf h hC hkk H locs ls hP hD hS hl)
theorem aw_icmp_le {u v : Int32} {off : Int} {t : Nat} (hd : decode μ.1 pc = .ok (.if_icmp .le off, 3)) (hn : pc + 3 = n) (ht : (pc : Int) + off = (t : Int)) (kt : u ≤ v → AW x μ g A w kk Q t lv rest σ) (kf : ¬ u ≤ v → AW x μ g A w kk Q n lv rest σ) : AW x μ g A w kk Q pc lv (.int v :: .int u :: rest) σ := by
  obtain ⟨p, l, e, R, s, m, args, below, meth, c⟩ := x
  obtain ⟨cc, nL, own, ret, d⟩ := μ
  subst hn
  intro hC hkk H locs ls hP hD hS hl
  obtain ⟨hx, hb, hml, hown, hts, hlk, hrt, hA, hK, hR⟩ := id hC
  exact lv_icmp_le hx hb hd ht (fun h => kt h hC hkk H locs ls hP hD hS hl) (fun h => kf h hC hkk H locs ls hP hD hS hl)
theorem aw_goto {off : Int} {t : Nat} (hd : decode μ.1 pc = .ok (.goto off, 3)) (ht : (pc : Int) + off = (t : Int)) (k : AW x μ g A w kk Q t lv rest σ) : AW x μ g A w kk Q pc lv rest σ := by
  obtain ⟨p, l, e, R, s, m, args, below, meth, c⟩ := x
  obtain ⟨cc, nL, own, ret, d⟩ := μ
  intro hC hkk H locs ls hP hD hS hl
  exact lv_goto hC.1 hC.2.1 hd ht (k hC hkk H locs ls hP hD hS hl)
theorem aw_lookup {dflt : Int} {ps : Array (Int × Int)} {len : Nat} {u : Int32} {off : Int} {t : Nat} (hd : decode μ.1 pc = .ok (.lookupswitch dflt ps, len)) (hp : (ps.toList.zip (ps.toList.drop 1)).all (fun (a, next) => a.1 < next.1) = true) (ho : Op.lookupswitch.offset ps.toList dflt u.toInt = off) (ht : (pc : Int) + off = (t : Int)) (k : AW x μ g A w kk Q t lv rest σ) : AW x μ g A w kk Q pc lv (.int u :: rest) σ := by
  obtain ⟨p, l, e, R, s, m, args, below, meth, c⟩ := x
  obtain ⟨cc, nL, own, ret, d⟩ := μ
  intro hC hkk H locs ls hP hD hS hl
  exact lv_lookup hC.1 hC.2.1 hd hp ho ht (k hC hkk H locs ls hP hD hS hl)
theorem aw_tableOut {dflt lo hi : Int} {offs : Array Int} {len : Nat} {u : Int32} {t : Nat} (hd : decode μ.1 pc = .ok (.tableswitch dflt lo hi offs, len)) (h : u.toInt < lo ∨ hi < u.toInt) (ht : (pc : Int) + dflt = (t : Int)) (k : AW x μ g A w kk Q t lv rest σ) : AW x μ g A w kk Q pc lv (.int u :: rest) σ := by
  obtain ⟨p, l, e, R, s, m, args, below, meth, c⟩ := x
  obtain ⟨cc, nL, own, ret, d⟩ := μ
  intro hC hkk H locs ls hP hD hS hl
  exact lv_tableOut hC.1 hC.2.1 hd h ht (k hC hkk H locs ls hP hD hS hl)
theorem aw_tableIn {dflt lo hi : Int} {offs : Array Int} {len : Nat} {u : Int32} {off : Int} {t : Nat} (hd : decode μ.1 pc = .ok (.tableswitch dflt lo hi offs, len)) (h1 : ¬ u.toInt < lo) (h2 : ¬ hi < u.toInt) (ho : offs[(u.toInt - lo).toNat]? = some off) (ht : (pc : Int) + off = (t : Int)) (k : AW x μ g A w kk Q t lv rest σ) : AW x μ g A w kk Q pc lv (.int u :: rest) σ := by
  obtain ⟨p, l, e, R, s, m, args, below, meth, c⟩ := x
  obtain ⟨cc, nL, own, ret, d⟩ := μ
  intro hC hkk H locs ls hP hD hS hl
  exact lv_tableIn hC.1 hC.2.1 hd h1 h2 ho ht (k hC hkk H locs ls hP hD hS hl)
/-- fewer locals are known -/
theorem aw_sub (ks : List Nat) (h : lv_pick lv ks = lv') (k : AW x μ g A w kk Q pc lv' rest σ) : AW x μ g A w kk Q pc lv rest σ := by
  obtain ⟨p, l, e, R, s, m, args, below, meth, c⟩ := x
  obtain ⟨cc, nL, own, ret, d⟩ := μ
  intro hC hkk H locs ls hP hD hS hl
  exact k hC hkk H locs ls hP hD hS (lv_sub hl ks h)
/-- another writing of stack and state -/
theorem aw_eq {st st2 : List Value} {σ2 : τ} (h : st = st2) (h2 : σ = σ2) (k : AW x μ g A w kk Q pc lv st2 σ2) : AW x μ g A w kk Q pc lv st σ := by subst h; subst h2; exact k
theorem aw_top {u v : Int32} (h : u = v) (k : AW x μ g A w kk Q pc lv (.int v :: rest) σ) : AW x μ g A w kk Q pc lv (.int u :: rest) σ := h ▸ k
theorem aw_topl {u v : Int64} (h : u = v) (k : AW x μ g A w kk Q pc lv (.long v :: rest) σ) : AW x μ g A w kk Q pc lv (.long u :: rest) σ := h ▸ k
theorem aw_nm {u : Int32} (k : ∀ v : Int32, v = u → AW x μ g A w kk Q pc lv (.int v :: rest) σ) : AW x μ g A w kk Q pc lv (.int u :: rest) σ := k u rfl
theorem aw_get {own C : String} {T : u_T} {N ci idx a : Nat} (q0 : Nat) {fs : List Value} (he : (w σ)[q0]? = some (a, .inr (ci, fs))) (hc : classes[ci]? = some (C, T, N)) (fk : Nat) (hk : fk < N) {v : Value} (hv : fs[fk]? = some v) (hin : ∀ z ∈ u_ws C T N, z ∈ ax_T) (hown0 : μ.2.2.1 = own) (hl0 : Cond.fieldLink own idx (T fk).1 (T fk).2.1 (T fk).2.2.1 ∈ ax_T) (hd : decode μ.1 pc = .ok (.getfield idx, 3)) (hn : pc + 3 = n) (k : AW x μ g A w kk Q n lv (v :: rest) σ) : AW x μ g A w kk Q pc lv (.ref a :: rest) σ := by
  obtain ⟨p, l, e, R, s, m, args, below, meth, c⟩ := x
  obtain ⟨cc, nL, own, ret, d⟩ := μ
  subst hn
  intro hC hkk H locs ls hP hD hS hl
  obtain ⟨hx, hb, hml, hown, hts, hlk, hrt, hA, hK, hR⟩ := id hC
  subst hown0
  exact va_get (D := g.1) (ref := (T fk).1) hx hb hts hin hown hK.1 hP q0 he hc fk hk (hts _ hl0) (fun _ h9 => h9) hv hd (k hC hkk H locs ls hP hD hS hl)
theorem aw_getN {own C host : String} {T : u_T} {N ci idx a : Nat} (q0 : Nat) {fs : List Value} (he : (w σ)[q0]? = some (a, .inr (ci, fs))) (hc : classes[ci]? = some (C, T, N)) (fk : Nat) (hk : fk < N) {v : Value} (hv : fs[fk]? = some v) (hin : ∀ z ∈ u_ws C T N, z ∈ ax_T) (hown0 : μ.2.2.1 = own) (hl0 : Cond.fieldLinkNest own idx (T fk).1 (T fk).2.1 (T fk).2.2.1 host ∈ ax_N) (hd : decode μ.1 pc = .ok (.getfield idx, 3)) (hn : pc + 3 = n) (k : AW x μ g A w kk Q n lv (v :: rest) σ) : AW x μ g A w kk Q pc lv (.ref a :: rest) σ := by
  obtain ⟨p, l, e, R, s, m, args, below, meth, c⟩ := x
  obtain ⟨cc, nL, own, ret, d⟩ := μ
  subst hn
  intro hC hkk H locs ls hP hD hS hl
  obtain ⟨hx, hb, hml, hown, hts, hlk, hrt, hA, hK, hR⟩ := id hC
  subst hown0
  exact va_getN (D := g.1) (ref := (T fk).1) (host := host) hx hb hts hin hown hK.1 hP q0 he hc fk hk (va_Nw.use rfl (hK.2.1 _ hl0)) (fun _ h9 => h9) hv hd (k hC hkk H locs ls hP hD hS hl)
theorem aw_put {own C : String} {T : u_T} {N ci idx a : Nat} (q0 : Nat) {fs : List Value} (he : (w σ)[q0]? = some (a, .inr (ci, fs))) (hc : classes[ci]? = some (C, T, N)) (fk : Nat) (hk : fk < N) {v : Value} {ty : FieldType} (ty0 : Nat → FieldType) (hty : ∀ k, k < N → parseFieldDescriptor (T k).2.2.1 = some (ty0 k)) (hnm : ∀ a, a < N → ∀ b, b < N → a ≠ b → (T a).2.1 ≠ (T b).2.1) (hfin : (T fk).2.2.2 = false) (hde : parseFieldDescriptor (T fk).2.2.1 = some ty) (hna : narrow ty v = v) (hfit : fits ty v = true) (hlen : fk < fs.length) (hin : ∀ z ∈ u_ws C T N, z ∈ ax_T) (hown0 : μ.2.2.1 = own) (hl0 : Cond.fieldLink own idx (T fk).1 (T fk).2.1 (T fk).2.2.1 ∈ ax_T) {σ2 : τ} (hset : (w σ).set q0 (a, .inr (ci, fs.set fk v)) = w σ2) (hd : decode μ.1 pc = .ok (.putfield idx, 3)) (hn : pc + 3 = n) (k : AW x μ g A w kk Q n lv rest σ2) : AW x μ g A w kk Q pc lv (v :: .ref a :: rest) σ := by
  obtain ⟨p, l, e, R, s, m, args, below, meth, c⟩ := x
  obtain ⟨cc, nL, own, ret, d⟩ := μ
  subst hn
  intro hC hkk H locs ls hP hD hS hl
  obtain ⟨hx, hb, hml, hown, hts, hlk, hrt, hA, hK, hR⟩ := id hC
  subst hown0
  exact va_put (D := g.1) (ref := (T fk).1) (ty := ty) hx hb hts hin ty0 hty hnm hown hK.1 hP hD hS q0 he hc fk hk (hts _ hl0) (fun _ h9 => h9) hfin hde hna hfit hlen hd (fun H locs hP hD hS => k hC hkk H locs ls (hset ▸ hP) (hset ▸ hD) hS hl)
theorem aw_putN {own C host : String} {T : u_T} {N ci idx a : Nat} (q0 : Nat) {fs : List Value} (he : (w σ)[q0]? = some (a, .inr (ci, fs))) (hc : classes[ci]? = some (C, T, N)) (fk : Nat) (hk : fk < N) {v : Value} {ty : FieldType} (ty0 : Nat → FieldType) (hty : ∀ k, k < N → parseFieldDescriptor (T k).2.2.1 = some (ty0 k)) (hnm : ∀ a, a < N → ∀ b, b < N → a ≠ b → (T a).2.1 ≠ (T b).2.1) (hfin : (T fk).2.2.2 = false) (hde : parseFieldDescriptor (T fk).2.2.1 = some ty) (hna : narrow ty v = v) (hfit : fits ty v = true) (hlen : fk < fs.length) (hin : ∀ z ∈ u_ws C T N, z ∈ ax_T) (hown0 : μ.2.2.1 = own) (hl0 : Cond.fieldLinkNest own idx (T fk).1 (T fk).2.1 (T fk).2.2.1 host ∈ ax_N) {σ2 : τ} (hset : (w σ).set q0 (a, .inr (ci, fs.set fk v)) = w σ2) (hd : decode μ.1 pc = .ok (.putfield idx, 3)) (hn : pc + 3 = n) (k : AW x μ g A w kk Q n lv rest σ2) : AW x μ g A w kk Q pc lv (v :: .ref a :: rest) σ := by
  obtain ⟨p, l, e, R, s, m, args, below, meth, c⟩ := x
  obtain ⟨cc, nL, own, ret, d⟩ := μ
  subst hn
  intro hC hkk H locs ls hP hD hS hl
  obtain ⟨hx, hb, hml, hown, hts, hlk, hrt, hA, hK, hR⟩ := id hC
  subst hown0
  exact va_putN (D := g.1) (ref := (T fk).1) (host := host) (ty := ty) hx hb hts hin ty0 hty hnm hown hK.1 hP hD hS q0 he hc fk hk (va_Nw.use rfl (hK.2.1 _ hl0)) (fun _ h9 => h9) hfin hde hna hfit hlen hd (fun H locs hP hD hS => k hC hkk H locs ls (hset ▸ hP) (hset ▸ hD) hS hl)
theorem aw_iald (q0 t0 : Nat) {a : Nat} {cA : ClassId} {N : Nat} {f : Nat → Int32} (ha : (w σ)[q0]? = some (a, .inl (cA, N, .inl f))) (ht : (ax_tys g)[t0]? = some (cA, .int)) {i : Int32} (hi : vp_in i N) (hd : decode μ.1 pc = .ok (.iaload, 1)) (hn : pc + 1 = n) (k : AW x μ g A w kk Q n lv (.int (f i.toNatClampNeg) :: rest) σ) : AW x μ g A w kk Q pc lv (.int i :: .ref a :: rest) σ := by
  obtain ⟨p, l, e, R, s, m, args, below, meth, c⟩ := x
  obtain ⟨cc, nL, own, ret, d⟩ := μ
  subst hn
  intro hC hkk H locs ls hP hD hS hl
  obtain ⟨hx, hb, hml, hown, hts, hlk, hrt, hA, hK, hR⟩ := id hC
  exact va_iald (D := g.1) hx hb hK.1 hP q0 t0 ha ht hi hd (k hC hkk H locs ls hP hD hS hl)
theorem aw_iast (q0 t0 : Nat) {a : Nat} {cA : ClassId} {N : Nat} {f : Nat → Int32} (ha : (w σ)[q0]? = some (a, .inl (cA, N, .inl f))) (ht : (ax_tys g)[t0]? = some (cA, .int)) {i v : Int32} (hi : vp_in i N) {σ2 : τ} (hset : (w σ).set q0 (a, .inl (cA, N, .inl (upd f i.toNatClampNeg v))) = w σ2) (hd : decode μ.1 pc = .ok (.iastore, 1)) (hn : pc + 1 = n) (k : AW x μ g A w kk Q n lv rest σ2) : AW x μ g A w kk Q pc lv (.int v :: .int i :: .ref a :: rest) σ := by
  obtain ⟨p, l, e, R, s, m, args, below, meth, c⟩ := x
  obtain ⟨cc, nL, own, ret, d⟩ := μ
  subst hn
  intro hC hkk H locs ls hP hD hS hl
  obtain ⟨hx, hb, hml, hown, hts, hlk, hrt, hA, hK, hR⟩ := id hC
  exact va_iast (D := g.1) hx hb hK.1 hP hD hS q0 t0 ha ht hi hd (fun H locs hP hD hS => k hC hkk H locs ls (hset ▸ hP) (hset ▸ hD) hS hl)
theorem aw_cald (q0 t0 : Nat) {a : Nat} {cA : ClassId} {N : Nat} {f : Nat → Int32} (ha : (w σ)[q0]? = some (a, .inl (cA, N, .inl f))) (ht : (ax_tys g)[t0]? = some (cA, .char)) {i : Int32} (hi : vp_in i N) (hd : decode μ.1 pc = .ok (.caload, 1)) (hn : pc + 1 = n) (k : AW x μ g A w kk Q n lv (.int (f i.toNatClampNeg) :: rest) σ) : AW x μ g A w kk Q pc lv (.int i :: .ref a :: rest) σ := by
  obtain ⟨p, l, e, R, s, m, args, below, meth, c⟩ := x
  obtain ⟨cc, nL, own, ret, d⟩ := μ
  subst hn
  intro hC hkk H locs ls hP hD hS hl
  obtain ⟨hx, hb, hml, hown, hts, hlk, hrt, hA, hK, hR⟩ := id hC
  exact va_cald (D := g.1) hx hb hK.1 hP q0 t0 ha ht hi hd (k hC hkk H locs ls hP hD hS hl)
theorem aw_cast (q0 t0 : Nat) {a : Nat} {cA : ClassId} {N : Nat} {f : Nat → Int32} (ha : (w σ)[q0]? = some (a, .inl (cA, N, .inl f))) (ht : (ax_tys g)[t0]? = some (cA, .char)) {i v : Int32} (hi : vp_in i N) {σ2 : τ} (hset : (w σ).set q0 (a, .inl (cA, N, .inl (upd f i.toNatClampNeg (vp_nar .char v)))) = w σ2) (hd : decode μ.1 pc = .ok (.castore, 1)) (hn : pc + 1 = n) (k : AW x μ g A w kk Q n lv rest σ2) : AW x μ g A w kk Q pc lv (.int v :: .int i :: .ref a :: rest) σ := by
  obtain ⟨p, l, e, R, s, m, args, below, meth, c⟩ := x
  obtain ⟨cc, nL, own, ret, d⟩ := μ
  subst hn
  intro hC hkk H locs ls hP hD hS hl
  obtain ⟨hx, hb, hml, hown, hts, hlk, hrt, hA, hK, hR⟩ := id hC
  exact va_cast (D := g.1) hx hb hK.1 hP hD hS q0 t0 ha ht hi hd (fun H locs hP hD hS => k hC hkk H locs ls (hset ▸ hP) (hset ▸ hD) hS hl)
theorem aw_zald (q0 t0 : Nat) {a : Nat} {cA : ClassId} {N : Nat} {f : Nat → Int32} (ha : (w σ)[q0]? = some (a, .inl (cA, N, .inl f))) (ht : (ax_tys g)[t0]? = some (cA, .boolean)) {i : Int32} (hi : vp_in i N) (hd : decode μ.1 pc = .ok (.baload, 1)) (hn : pc + 1 = n) (k : AW x μ g A w kk Q n lv (.int (f i.toNatClampNeg) :: rest) σ) : AW x μ g A w kk Q pc lv (.int i :: .ref a :: rest) σ := by
  obtain ⟨p, l, e, R, s, m, args, below, meth, c⟩ := x
  obtain ⟨cc, nL, own, ret, d⟩ := μ
  subst hn
  intro hC hkk H locs ls hP hD hS hl
  obtain ⟨hx, hb, hml, hown, hts, hlk, hrt, hA, hK, hR⟩ := id hC
  exact va_zald (D := g.1) hx hb hK.1 hP q0 t0 ha ht hi hd (k hC hkk H locs ls hP hD hS hl)
theorem aw_bald (q0 t0 : Nat) {a : Nat} {cA : ClassId} {N : Nat} {f : Nat → Int32} (ha : (w σ)[q0]? = some (a, .inl (cA, N, .inl f))) (ht : (ax_tys g)[t0]? = some (cA, .byte)) {i : Int32} (hi : vp_in i N) (hd : decode μ.1 pc = .ok (.baload, 1)) (hn : pc + 1 = n) (k : AW x μ g A w kk Q n lv (.int (f i.toNatClampNeg) :: rest) σ) : AW x μ g A w kk Q pc lv (.int i :: .ref a :: rest) σ := by
  obtain ⟨p, l, e, R, s, m, args, below, meth, c⟩ := x
  obtain ⟨cc, nL, own, ret, d⟩ := μ
  subst hn
  intro hC hkk H locs ls hP hD hS hl
  obtain ⟨hx, hb, hml, hown, hts, hlk, hrt, hA, hK, hR⟩ := id hC
  exact va_bald (D := g.1) hx hb hK.1 hP q0 t0 ha ht hi hd (k hC hkk H locs ls hP hD hS hl)
theorem aw_alen (q0 t0 : Nat) {a : Nat} {cA : ClassId} {z : vp_A} (ha : (w σ)[q0]? = some (a, .inl (cA, z))) {ty : FieldType} (ht : (ax_tys g)[t0]? = some (cA, ty)) {v : Int32} (hv : Int32.ofNat z.1 = v) (hd : decode μ.1 pc = .ok (.arraylength, 1)) (hn : pc + 1 = n) (k : AW x μ g A w kk Q n lv (.int v :: rest) σ) : AW x μ g A w kk Q pc lv (.ref a :: rest) σ := by
  obtain ⟨p, l, e, R, s, m, args, below, meth, c⟩ := x
  obtain ⟨cc, nL, own, ret, d⟩ := μ
  subst hn
  intro hC hkk H locs ls hP hD hS hl
  obtain ⟨hx, hb, hml, hown, hts, hlk, hrt, hA, hK, hR⟩ := id hC
  exact va_alen (D := g.1) hx hb hK.1 hP q0 t0 ha ht hv hd (k hC hkk H locs ls hP hD hS hl)
theorem aw_iret {post : Int32 → τ → Prop} {v : Int32} (hd : decode μ.1 pc = .ok (.ireturn, 1)) (hr : μ.2.2.2.1 = some .int) (hp : post v σ) : AW x μ g A w (μ.2.2.2.2.2.2.1, μ.2.2.2.2.2.2.2) (ax_QI x μ g A w post) pc lv [.int v] σ := by
  obtain ⟨p, l, e, R, s, m, args, below, meth, c⟩ := x
  obtain ⟨cc, nL, own, ret, d⟩ := μ
  intro hC hkk H locs ls hP hD hS hl
  obtain ⟨hx, hb, hml, hown, hts, hlk, hrt, hA, hK, hR⟩ := id hC
  exact W.iret (v := v) hx hb (hrt.trans hr) (fun t ht hW => ⟨⟨v, σ, rfl, hp, by rw [ht]; exact hP, hD⟩, hS.F ht⟩) hS.2.2 hd hlk
theorem aw_zret {post : Int32 → τ → Prop} {v : Int32} {ty : FieldType} (hd : decode μ.1 pc = .ok (.ireturn, 1)) (hr : μ.2.2.2.1 = some ty) (hna : narrow ty (.int v) = .int v) (hp : post v σ) : AW x μ g A w (μ.2.2.2.2.2.2.1, μ.2.2.2.2.2.2.2) (ax_QI x μ g A w post) pc lv [.int v] σ := by
  obtain ⟨p, l, e, R, s, m, args, below, meth, c⟩ := x
  obtain ⟨cc, nL, own, ret, d⟩ := μ
  intro hC hkk H locs ls hP hD hS hl
  obtain ⟨hx, hb, hml, hown, hts, hlk, hrt, hA, hK, hR⟩ := id hC
  exact W.zret (v := v) hx hb (hrt.trans hr) hna (fun t ht hW => ⟨⟨v, σ, rfl, hp, by rw [ht]; exact hP, hD⟩, hS.F ht⟩) hS.2.2 hd hlk
theorem aw_vret {post : τ → Prop} (hd : decode μ.1 pc = .ok (.return_, 1)) (hr : μ.2.2.2.1 = none) (hp : post σ) : AW x μ g A w (μ.2.2.2.2.2.2.1, μ.2.2.2.2.2.2.2) (ax_QV x μ g A w post) pc lv [] σ := by
  obtain ⟨p, l, e, R, s, m, args, below, meth, c⟩ := x
  obtain ⟨cc, nL, own, ret, d⟩ := μ
  intro hC hkk H locs ls hP hD hS hl
  obtain ⟨hx, hb, hml, hown, hts, hlk, hrt, hA, hK, hR⟩ := id hC
  exact W.vret hx hb (hrt.trans hr) (fun t ht hW => ⟨⟨σ, rfl, hp, by rw [ht]; exact hP, hD⟩, hS.F ht⟩) hS.2.2 hd hlk
theorem ax_CI.of {y : MethodName} {av : List Value} {post : Int32 → τ → Prop} (hy : plainFor y = true) (hown : y.cls = μ.2.2.1) (hn : (lg_sl av).length ≤ μ.2.1) (body : ∀ (x : ax_X) (A : Nat → Prop), x.2.2.2.2.2.2.2.2.1.name = y.name → AW x μ g A w (0, 0) (ax_QI x μ g A w post) 0 (lv_args 0 av) [] σ) : ax_CI μ g y w av σ post := by
  intro l sz
  obtain ⟨cc, nL, own, ret, d⟩ := μ
  refine va_MetF (cc := cc) (maxL := nL) (ret := ret) hy rfl ?_
  intro p e s m args below meth c s₁ B hml hv
  obtain ⟨rfl, hsz, hK, hP, hD0⟩ := hv
  subst hsz
  have hts := atoms_spec (ws := Cond.code y cc nL ret :: ax_T) B.pre
  have hD := hD0.self (sz := s.heap.size)
  have hl := lv_entry av (n := nL) hn
  rw [lg_entry_eq]
  exact body (p, l, e, ax_R d, s, m, av.toArray, below, meth, c) (va_A (w σ) s.heap.size) (name_of_methodNamed B.named B.method).1 ⟨B.exec, B.bytes, hml, (show s.vm.findClass own = some m.cls from (congrArg s.vm.findClass hown).symm.trans (findClass_of_methodNamed B.named)), fun z hz => hts z (List.mem_cons_of_mem _ hz), B.notSynchronized, B.returns, fun q h => Or.inr h, hK, Nat.le_refl _, Nat.le_refl _, Nat.le_refl _, Nat.le_refl _⟩ ⟨Nat.zero_le _, Nat.zero_le _⟩ s.heap [] _ hP hD va_S.rf hl
theorem ax_CV.of {y : MethodName} {av : List Value} {post : τ → Prop} (hy : plainFor y = true) (hown : y.cls = μ.2.2.1) (hn : (lg_sl av).length ≤ μ.2.1) (body : ∀ (x : ax_X) (A : Nat → Prop), x.2.2.2.2.2.2.2.2.1.name = y.name → AW x μ g A w (0, 0) (ax_QV x μ g A w post) 0 (lv_args 0 av) [] σ) : ax_CV μ g y w av σ post := by
  intro l sz
  obtain ⟨cc, nL, own, ret, d⟩ := μ
  refine va_MetF (cc := cc) (maxL := nL) (ret := ret) hy rfl ?_
  intro p e s m args below meth c s₁ B hml hv
  obtain ⟨rfl, hsz, hK, hP, hD0⟩ := hv
  subst hsz
  have hts := atoms_spec (ws := Cond.code y cc nL ret :: ax_T) B.pre
  have hD := hD0.self (sz := s.heap.size)
  have hl := lv_entry av (n := nL) hn
  rw [lg_entry_eq]
  exact body (p, l, e, ax_R d, s, m, av.toArray, below, meth, c) (va_A (w σ) s.heap.size) (name_of_methodNamed B.named B.method).1 ⟨B.exec, B.bytes, hml, (show s.vm.findClass own = some m.cls from (congrArg s.vm.findClass hown).symm.trans (findClass_of_methodNamed B.named)), fun z hz => hts z (List.mem_cons_of_mem _ hz), B.notSynchronized, B.returns, fun q h => Or.inr h, hK, Nat.le_refl _, Nat.le_refl _, Nat.le_refl _, Nat.le_refl _⟩ ⟨Nat.zero_le _, Nat.zero_le _⟩ s.heap [] _ hP hD va_S.rf hl
theorem ax_free {H0 H : Heap} {locs : List Loc} (hD : va_D A (w σ)) (hS : va_S A H0 H locs) (hA : ∀ q : Nat, H0.size ≤ q → A q) : ∀ q, va_A (w σ) H.size q → A q := by
  intro q h
  rcases h with ⟨i, z, hi⟩ | h
  · exact hD.2 i (q, z) hi
  · exact hA q (Nat.le_trans hS.1 h)
theorem ax_good {y : MethodName} {bs : ByteArray} {nl : Nat} {rt : Option FieldType} (h : Cond.code y bs nl rt ∈ ax_T) : GoodIn ax_T (Cond.code y bs nl rt :: ax_T) := by
  intro z hz
  rcases List.mem_cons.mp hz with rfl | hz
  · exact ⟨h, ax_T_good _ h⟩
  · exact ⟨hz, ax_T_good _ hz⟩
/-- what the tables must have of a callee -/
def ax_Y (μ' : ax_M) (y : MethodName) (k : Nat) : Prop := Cond.code y μ'.1 μ'.2.1 μ'.2.2.2.1 ∈ ax_T ∧ Cond.initialized y.cls ∈ ax_T ∧ (y.cls ≠ "java/lang/invoke/MethodHandle" ∧ y.cls ≠ "java/lang/invoke/VarHandle" ∧ (parseMethodDescriptor y.desc).map (fun d => d.parameters.length) = some k)
def ax_YV (μ' : ax_M) (y : MethodName) (k : Nat) : Prop := ax_Y μ' y k ∧ Cond.instanceMethod y ∈ ax_T ∧ Cond.selects y.cls y y ∈ ax_T
def ax_YS (μ' : ax_M) (y : MethodName) (k : Nat) : Prop := ax_Y μ' y k ∧ Cond.static y ∈ ax_T
theorem aw_callVi {μ2 : ax_M} {y : MethodName} {idx : Nat} {b : Nat} {As : List Value} {post : Int32 → τ → Prop} (hM : ax_CI μ2 g y w (.ref b :: As) σ post) (q0 : Nat) {ci N : Nat} {T : u_T} {fs : List Value} (he : (w σ)[q0]? = some (b, .inr (ci, fs))) (hc : classes[ci]? = some (y.cls, T, N)) (hY : ax_YV μ2 y As.length) (hl0 : Cond.methodLink μ.2.2.1 idx y ∈ ax_T) (hdd : μ2.2.2.2.2.1 + 1 ≤ μ.2.2.2.2.1) (hmax : 8 + (μ2.2.1 + 11) + μ2.2.2.2.2.2.1 ≤ μ.2.2.2.2.2.1) (hno : μ2.2.2.2.2.2.2 = (0, 0)) {st : List Value} (hst : st = As.reverse ++ .ref b :: rest) (hroom : (rest.map fun v => v.category).sum ≤ 8) (hd : decode μ.1 pc = .ok (.invokevirtual idx, 3)) (hn : pc + 3 = n) (k : ∀ (r : Int32) (σ2 : τ), post r σ2 → AW x μ g A w kk Q n lv (.int r :: rest) σ2) : AW x μ g A w kk Q pc lv st σ := by
  obtain ⟨p, l, e, R, s, m, args, below, meth, c⟩ := x
  obtain ⟨cc, nL, own, ret, d⟩ := μ
  subst hn
  intro hC hkk H locs ls hP hD hS hl
  obtain ⟨hx, hb, hml, hown, hts, hlk, hrt, hA, hK, hR⟩ := id hC
  obtain ⟨cc2, nL2, own2, ret2, f2, l2, bb⟩ := μ2
  have hbb : bb = (0, 0) := hno
  subst hbb
  have hF := ax_free hD hS hA
  exact va_calli (va_runV (C := y.cls) (As := As) (rest := rest) ⟨hx, hb, hml, hown, hts⟩ (hM l H.size) ⟨callB_of As.length hts (ax_good hY.1.1) rfl rfl rfl (hts _ hY.1.2.1) (hts _ hl0) hY.1.2.2 ⟨Nat.le_trans hdd hR.1, Nat.le_trans hmax hR.2.1⟩, hts _ hY.2.1, hts _ hY.2.2⟩ ⟨fun a U gg mk q => ⟨q.1, q.2.1, ax_K.call q.2.2.1, q.2.2.2.1, q.2.2.2.2⟩, va_recv hK.1 hP hc he, fun U hU hW => ⟨rfl, by rw [hU], ax_K.to hK hS hF hW hU, by rw [hU]; exact hP, hD.weaken (fun _ _ _ _ => trivial)⟩⟩ rfl rfl hl.1 hst (lv_room hroom) hd ⟨Nat.le_trans hkk.1 hR.2.2.1, Nat.le_trans hkk.2 hR.2.2.2⟩) hS (fun q _ h => hF q h) hF (fun r u t H1 locs ht hvm hp hB hz1 hk1 hS => k r u hp hC hkk H1 locs ls (by rw [← ht]; exact hB.1) (hB.2.weaken (fun _ _ _ h => hF _ h)) hS hl)
theorem aw_callVv {μ2 : ax_M} {y : MethodName} {idx : Nat} {b : Nat} {As : List Value} {post : τ → Prop} (hM : ax_CV μ2 g y w (.ref b :: As) σ post) (q0 : Nat) {ci N : Nat} {T : u_T} {fs : List Value} (he : (w σ)[q0]? = some (b, .inr (ci, fs))) (hc : classes[ci]? = some (y.cls, T, N)) (hY : ax_YV μ2 y As.length) (hl0 : Cond.methodLink μ.2.2.1 idx y ∈ ax_T) (hdd : μ2.2.2.2.2.1 + 1 ≤ μ.2.2.2.2.1) (hmax : 8 + (μ2.2.1 + 11) + μ2.2.2.2.2.2.1 ≤ μ.2.2.2.2.2.1) (hno : μ2.2.2.2.2.2.2 = (0, 0)) {st : List Value} (hst : st = As.reverse ++ .ref b :: rest) (hroom : (rest.map fun v => v.category).sum ≤ 8) (hd : decode μ.1 pc = .ok (.invokevirtual idx, 3)) (hn : pc + 3 = n) (k : ∀ σ2 : τ, post σ2 → AW x μ g A w kk Q n lv rest σ2) : AW x μ g A w kk Q pc lv st σ := by
  obtain ⟨p, l, e, R, s, m, args, below, meth, c⟩ := x
  obtain ⟨cc, nL, own, ret, d⟩ := μ
  subst hn
  intro hC hkk H locs ls hP hD hS hl
  obtain ⟨hx, hb, hml, hown, hts, hlk, hrt, hA, hK, hR⟩ := id hC
  obtain ⟨cc2, nL2, own2, ret2, f2, l2, bb⟩ := μ2
  have hbb : bb = (0, 0) := hno
  subst hbb
  have hF := ax_free hD hS hA
  exact va_callv (va_runV (C := y.cls) (As := As) (rest := rest) ⟨hx, hb, hml, hown, hts⟩ (hM l H.size) ⟨callB_of As.length hts (ax_good hY.1.1) rfl rfl rfl (hts _ hY.1.2.1) (hts _ hl0) hY.1.2.2 ⟨Nat.le_trans hdd hR.1, Nat.le_trans hmax hR.2.1⟩, hts _ hY.2.1, hts _ hY.2.2⟩ ⟨fun a U gg mk q => ⟨q.1, q.2.1, ax_K.call q.2.2.1, q.2.2.2.1, q.2.2.2.2⟩, va_recv hK.1 hP hc he, fun U hU hW => ⟨rfl, by rw [hU], ax_K.to hK hS hF hW hU, by rw [hU]; exact hP, hD.weaken (fun _ _ _ _ => trivial)⟩⟩ rfl rfl hl.1 hst (lv_room hroom) hd ⟨Nat.le_trans hkk.1 hR.2.2.1, Nat.le_trans hkk.2 hR.2.2.2⟩) hS (fun q _ h => hF q h) hF (fun u t H1 locs ht hvm hp hB hz1 hk1 hS => k u hp hC hkk H1 locs ls (by rw [← ht]; exact hB.1) (hB.2.weaken (fun _ _ _ h => hF _ h)) hS hl)
theorem aw_callSi {μ2 : ax_M} {y : MethodName} {idx : Nat} {As : List Value} {post : Int32 → τ → Prop} (hM : ax_CI μ2 g y w As σ post) (hY : ax_YS μ2 y As.length) (hl0 : Cond.methodLink μ.2.2.1 idx y ∈ ax_T) (hdd : μ2.2.2.2.2.1 + 1 ≤ μ.2.2.2.2.1) (hmax : 8 + (μ2.2.1 + 11) + μ2.2.2.2.2.2.1 ≤ μ.2.2.2.2.2.1) (hno : μ2.2.2.2.2.2.2 = (0, 0)) {st : List Value} (hst : st = As.reverse ++ rest) (hroom : (rest.map fun v => v.category).sum ≤ 8) (hd : decode μ.1 pc = .ok (.invokestatic idx, 3)) (hn : pc + 3 = n) (k : ∀ (r : Int32) (σ2 : τ), post r σ2 → AW x μ g A w kk Q n lv (.int r :: rest) σ2) : AW x μ g A w kk Q pc lv st σ := by
  obtain ⟨p, l, e, R, s, m, args, below, meth, c⟩ := x
  obtain ⟨cc, nL, own, ret, d⟩ := μ
  subst hn
  intro hC hkk H locs ls hP hD hS hl
  obtain ⟨hx, hb, hml, hown, hts, hlk, hrt, hA, hK, hR⟩ := id hC
  obtain ⟨cc2, nL2, own2, ret2, f2, l2, bb⟩ := μ2
  have hbb : bb = (0, 0) := hno
  subst hbb
  have hF := ax_free hD hS hA
  exact va_calli (va_runS (As := As) (rest := rest) ⟨hx, hb, hml, hown, hts⟩ (hM l H.size) ⟨callB_of As.length hts (ax_good hY.1.1) rfl rfl rfl (hts _ hY.1.2.1) (hts _ hl0) hY.1.2.2 ⟨Nat.le_trans hdd hR.1, Nat.le_trans hmax hR.2.1⟩, hts _ hY.2⟩ ⟨fun a U gg mk q => ⟨q.1, q.2.1, ax_K.call q.2.2.1, q.2.2.2.1, q.2.2.2.2⟩, fun U hU hW => ⟨rfl, by rw [hU], ax_K.to hK hS hF hW hU, by rw [hU]; exact hP, hD.weaken (fun _ _ _ _ => trivial)⟩⟩ rfl rfl hl.1 hst (lv_room hroom) hd ⟨Nat.le_trans hkk.1 hR.2.2.1, Nat.le_trans hkk.2 hR.2.2.2⟩) hS (fun q _ h => hF q h) hF (fun r u t H1 locs ht hvm hp hB hz1 hk1 hS => k r u hp hC hkk H1 locs ls (by rw [← ht]; exact hB.1) (hB.2.weaken (fun _ _ _ h => hF _ h)) hS hl)
theorem aw_callSv {μ2 : ax_M} {y : MethodName} {idx : Nat} {As : List Value} {post : τ → Prop} (hM : ax_CV μ2 g y w As σ post) (hY : ax_YS μ2 y As.length) (hl0 : Cond.methodLink μ.2.2.1 idx y ∈ ax_T) (hdd : μ2.2.2.2.2.1 + 1 ≤ μ.2.2.2.2.1) (hmax : 8 + (μ2.2.1 + 11) + μ2.2.2.2.2.2.1 ≤ μ.2.2.2.2.2.1) (hno : μ2.2.2.2.2.2.2 = (0, 0)) {st : List Value} (hst : st = As.reverse ++ rest) (hroom : (rest.map fun v => v.category).sum ≤ 8) (hd : decode μ.1 pc = .ok (.invokestatic idx, 3)) (hn : pc + 3 = n) (k : ∀ σ2 : τ, post σ2 → AW x μ g A w kk Q n lv rest σ2) : AW x μ g A w kk Q pc lv st σ := by
  obtain ⟨p, l, e, R, s, m, args, below, meth, c⟩ := x
  obtain ⟨cc, nL, own, ret, d⟩ := μ
  subst hn
  intro hC hkk H locs ls hP hD hS hl
  obtain ⟨hx, hb, hml, hown, hts, hlk, hrt, hA, hK, hR⟩ := id hC
  obtain ⟨cc2, nL2, own2, ret2, f2, l2, bb⟩ := μ2
  have hbb : bb = (0, 0) := hno
  subst hbb
  have hF := ax_free hD hS hA
  exact va_callv (va_runS (As := As) (rest := rest) ⟨hx, hb, hml, hown, hts⟩ (hM l H.size) ⟨callB_of As.length hts (ax_good hY.1.1) rfl rfl rfl (hts _ hY.1.2.1) (hts _ hl0) hY.1.2.2 ⟨Nat.le_trans hdd hR.1, Nat.le_trans hmax hR.2.1⟩, hts _ hY.2⟩ ⟨fun a U gg mk q => ⟨q.1, q.2.1, ax_K.call q.2.2.1, q.2.2.2.1, q.2.2.2.2⟩, fun U hU hW => ⟨rfl, by rw [hU], ax_K.to hK hS hF hW hU, by rw [hU]; exact hP, hD.weaken (fun _ _ _ _ => trivial)⟩⟩ rfl rfl hl.1 hst (lv_room hroom) hd ⟨Nat.le_trans hkk.1 hR.2.2.1, Nat.le_trans hkk.2 hR.2.2.2⟩) hS (fun q _ h => hF q h) hF (fun u t H1 locs ht hvm hp hB hz1 hk1 hS => k u hp hC hkk H1 locs ls (by rw [← ht]; exact hB.1) (hB.2.weaken (fun _ _ _ h => hF _ h)) hS hl)
theorem aw_callVNi {μ2 : ax_M} {y : MethodName} {idx : Nat} {b : Nat} {As : List Value} {post : Int32 → τ → Prop} (hM : ax_CI μ2 g y w (.ref b :: As) σ post) (q0 : Nat) {ci N : Nat} {T : u_T} {fs : List Value} (he : (w σ)[q0]? = some (b, .inr (ci, fs))) (hc : classes[ci]? = some (y.cls, T, N)) (hY : ax_YV μ2 y As.length) {host : String} (hl0 : Cond.methodLinkNest μ.2.2.1 idx y host ∈ ax_N) (hdd : μ2.2.2.2.2.1 + 1 ≤ μ.2.2.2.2.1) (hmax : 8 + (μ2.2.1 + 11) + μ2.2.2.2.2.2.1 ≤ μ.2.2.2.2.2.1) (hno : μ2.2.2.2.2.2.2 = (0, 0)) {st : List Value} (hst : st = As.reverse ++ .ref b :: rest) (hroom : (rest.map fun v => v.category).sum ≤ 8) (hd : decode μ.1 pc = .ok (.invokevirtual idx, 3)) (hn : pc + 3 = n) (k : ∀ (r : Int32) (σ2 : τ), post r σ2 → AW x μ g A w kk Q n lv (.int r :: rest) σ2) : AW x μ g A w kk Q pc lv st σ := by
  obtain ⟨p, l, e, R, s, m, args, below, meth, c⟩ := x
  obtain ⟨cc, nL, own, ret, d⟩ := μ
  subst hn
  intro hC hkk H locs ls hP hD hS hl
  obtain ⟨hx, hb, hml, hown, hts, hlk, hrt, hA, hK, hR⟩ := id hC
  obtain ⟨cc2, nL2, own2, ret2, f2, l2, bb⟩ := μ2
  have hbb : bb = (0, 0) := hno
  subst hbb
  have hF := ax_free hD hS hA
  exact va_calli (va_runVN (C := y.cls) (As := As) (rest := rest) ⟨hx, hb, hml, hown, hts⟩ (hM l H.size) ⟨va_cnB As.length hts (ax_good hY.1.1) rfl rfl rfl (hK.2.1 _ hl0) (hts _ hY.1.2.1) hY.1.2.2 ⟨Nat.le_trans hdd hR.1, Nat.le_trans hmax hR.2.1⟩, hts _ hY.2.1, hts _ hY.2.2⟩ ⟨fun a U gg mk q => ⟨q.1, q.2.1, ax_K.call q.2.2.1, q.2.2.2.1, q.2.2.2.2⟩, va_recv hK.1 hP hc he, fun U hU hW => ⟨rfl, by rw [hU], ax_K.to hK hS hF hW hU, by rw [hU]; exact hP, hD.weaken (fun _ _ _ _ => trivial)⟩⟩ rfl rfl hl.1 hst (lv_room hroom) hd ⟨Nat.le_trans hkk.1 hR.2.2.1, Nat.le_trans hkk.2 hR.2.2.2⟩) hS (fun q _ h => hF q h) hF (fun r u t H1 locs ht hvm hp hB hz1 hk1 hS => k r u hp hC hkk H1 locs ls (by rw [← ht]; exact hB.1) (hB.2.weaken (fun _ _ _ h => hF _ h)) hS hl)
theorem aw_callVNv {μ2 : ax_M} {y : MethodName} {idx : Nat} {b : Nat} {As : List Value} {post : τ → Prop} (hM : ax_CV μ2 g y w (.ref b :: As) σ post) (q0 : Nat) {ci N : Nat} {T : u_T} {fs : List Value} (he : (w σ)[q0]? = some (b, .inr (ci, fs))) (hc : classes[ci]? = some (y.cls, T, N)) (hY : ax_YV μ2 y As.length) {host : String} (hl0 : Cond.methodLinkNest μ.2.2.1 idx y host ∈ ax_N) (hdd : μ2.2.2.2.2.1 + 1 ≤ μ.2.2.2.2.1) (hmax : 8 + (μ2.2.1 + 11) + μ2.2.2.2.2.2.1 ≤ μ.2.2.2.2.2.1) (hno : μ2.2.2.2.2.2.2 = (0, 0)) {st : List Value} (hst : st = As.reverse ++ .ref b :: rest) (hroom : (rest.map fun v => v.category).sum ≤ 8) (hd : decode μ.1 pc = .ok (.invokevirtual idx, 3)) (hn : pc + 3 = n) (k : ∀ σ2 : τ, post σ2 → AW x μ g A w kk Q n lv rest σ2) : AW x μ g A w kk Q pc lv st σ := by
  obtain ⟨p, l, e, R, s, m, args, below, meth, c⟩ := x
  obtain ⟨cc, nL, own, ret, d⟩ := μ
  subst hn
  intro hC hkk H locs ls hP hD hS hl
  obtain ⟨hx, hb, hml, hown, hts, hlk, hrt, hA, hK, hR⟩ := id hC
  obtain ⟨cc2, nL2, own2, ret2, f2, l2, bb⟩ := μ2
  have hbb : bb = (0, 0) := hno
  subst hbb
  have hF := ax_free hD hS hA
  exact va_callv (va_runVN (C := y.cls) (As := As) (rest := rest) ⟨hx, hb, hml, hown, hts⟩ (hM l H.size) ⟨va_cnB As.length hts (ax_good hY.1.1) rfl rfl rfl (hK.2.1 _ hl0) (hts _ hY.1.2.1) hY.1.2.2 ⟨Nat.le_trans hdd hR.1, Nat.le_trans hmax hR.2.1⟩, hts _ hY.2.1, hts _ hY.2.2⟩ ⟨fun a U gg mk q => ⟨q.1, q.2.1, ax_K.call q.2.2.1, q.2.2.2.1, q.2.2.2.2⟩, va_recv hK.1 hP hc he, fun U hU hW => ⟨rfl, by rw [hU], ax_K.to hK hS hF hW hU, by rw [hU]; exact hP, hD.weaken (fun _ _ _ _ => trivial)⟩⟩ rfl rfl hl.1 hst (lv_room hroom) hd ⟨Nat.le_trans hkk.1 hR.2.2.1, Nat.le_trans hkk.2 hR.2.2.2⟩) hS (fun q _ h => hF q h) hF (fun u t H1 locs ht hvm hp hB hz1 hk1 hS => k u hp hC hkk H1 locs ls (by rw [← ht]; exact hB.1) (hB.2.weaken (fun _ _ _ h => hF _ h)) hS hl)
theorem aw_callSNi {μ2 : ax_M} {y : MethodName} {idx : Nat} {As : List Value} {post : Int32 → τ → Prop} (hM : ax_CI μ2 g y w As σ post) (hY : ax_YS μ2 y As.length) {host : String} (hl0 : Cond.methodLinkNest μ.2.2.1 idx y host ∈ ax_N) (hdd : μ2.2.2.2.2.1 + 1 ≤ μ.2.2.2.2.1) (hmax : 8 + (μ2.2.1 + 11) + μ2.2.2.2.2.2.1 ≤ μ.2.2.2.2.2.1) (hno : μ2.2.2.2.2.2.2 = (0, 0)) {st : List Value} (hst : st = As.reverse ++ rest) (hroom : (rest.map fun v => v.category).sum ≤ 8) (hd : decode μ.1 pc = .ok (.invokestatic idx, 3)) (hn : pc + 3 = n) (k : ∀ (r : Int32) (σ2 : τ), post r σ2 → AW x μ g A w kk Q n lv (.int r :: rest) σ2) : AW x μ g A w kk Q pc lv st σ := by
  obtain ⟨p, l, e, R, s, m, args, below, meth, c⟩ := x
  obtain ⟨cc, nL, own, ret, d⟩ := μ
  subst hn
  intro hC hkk H locs ls hP hD hS hl
  obtain ⟨hx, hb, hml, hown, hts, hlk, hrt, hA, hK, hR⟩ := id hC
  obtain ⟨cc2, nL2, own2, ret2, f2, l2, bb⟩ := μ2
  have hbb : bb = (0, 0) := hno
  subst hbb
  have hF := ax_free hD hS hA
  exact va_calli (va_runSN (As := As) (rest := rest) ⟨hx, hb, hml, hown, hts⟩ (hM l H.size) ⟨va_cnB As.length hts (ax_good hY.1.1) rfl rfl rfl (hK.2.1 _ hl0) (hts _ hY.1.2.1) hY.1.2.2 ⟨Nat.le_trans hdd hR.1, Nat.le_trans hmax hR.2.1⟩, hts _ hY.2, trivial⟩ ⟨fun a U gg mk q => ⟨q.1, q.2.1, ax_K.call q.2.2.1, q.2.2.2.1, q.2.2.2.2⟩, fun U hU hW => ⟨rfl, by rw [hU], ax_K.to hK hS hF hW hU, by rw [hU]; exact hP, hD.weaken (fun _ _ _ _ => trivial)⟩⟩ rfl rfl hl.1 hst (lv_room hroom) hd ⟨Nat.le_trans hkk.1 hR.2.2.1, Nat.le_trans hkk.2 hR.2.2.2⟩) hS (fun q _ h => hF q h) hF (fun r u t H1 locs ht hvm hp hB hz1 hk1 hS => k r u hp hC hkk H1 locs ls (by rw [← ht]; exact hB.1) (hB.2.weaken (fun _ _ _ h => hF _ h)) hS hl)
theorem aw_callSNv {μ2 : ax_M} {y : MethodName} {idx : Nat} {As : List Value} {post : τ → Prop} (hM : ax_CV μ2 g y w As σ post) (hY : ax_YS μ2 y As.length) {host : String} (hl0 : Cond.methodLinkNest μ.2.2.1 idx y host ∈ ax_N) (hdd : μ2.2.2.2.2.1 + 1 ≤ μ.2.2.2.2.1) (hmax : 8 + (μ2.2.1 + 11) + μ2.2.2.2.2.2.1 ≤ μ.2.2.2.2.2.1) (hno : μ2.2.2.2.2.2.2 = (0, 0)) {st : List Value} (hst : st = As.reverse ++ rest) (hroom : (rest.map fun v => v.category).sum ≤ 8) (hd : decode μ.1 pc = .ok (.invokestatic idx, 3)) (hn : pc + 3 = n) (k : ∀ σ2 : τ, post σ2 → AW x μ g A w kk Q n lv rest σ2) : AW x μ g A w kk Q pc lv st σ := by
  obtain ⟨p, l, e, R, s, m, args, below, meth, c⟩ := x
  obtain ⟨cc, nL, own, ret, d⟩ := μ
  subst hn
  intro hC hkk H locs ls hP hD hS hl
  obtain ⟨hx, hb, hml, hown, hts, hlk, hrt, hA, hK, hR⟩ := id hC
  obtain ⟨cc2, nL2, own2, ret2, f2, l2, bb⟩ := μ2
  have hbb : bb = (0, 0) := hno
  subst hbb
  have hF := ax_free hD hS hA
  exact va_callv (va_runSN (As := As) (rest := rest) ⟨hx, hb, hml, hown, hts⟩ (hM l H.size) ⟨va_cnB As.length hts (ax_good hY.1.1) rfl rfl rfl (hK.2.1 _ hl0) (hts _ hY.1.2.1) hY.1.2.2 ⟨Nat.le_trans hdd hR.1, Nat.le_trans hmax hR.2.1⟩, hts _ hY.2, trivial⟩ ⟨fun a U gg mk q => ⟨q.1, q.2.1, ax_K.call q.2.2.1, q.2.2.2.1, q.2.2.2.2⟩, fun U hU hW => ⟨rfl, by rw [hU], ax_K.to hK hS hF hW hU, by rw [hU]; exact hP, hD.weaken (fun _ _ _ _ => trivial)⟩⟩ rfl rfl hl.1 hst (lv_room hroom) hd ⟨Nat.le_trans hkk.1 hR.2.2.1, Nat.le_trans hkk.2 hR.2.2.2⟩) hS (fun q _ h => hF q h) hF (fun u t H1 locs ht hvm hp hB hz1 hk1 hS => k u hp hC hkk H1 locs ls (by rw [← ht]; exact hB.1) (hB.2.weaken (fun _ _ _ h => hF _ h)) hS hl)
theorem aw_callXi {μ2 : ax_M} {y : MethodName} {idx : Nat} {b : Nat} {As : List Value} {post : Int32 → τ → Prop} (hM : ax_CI μ2 g y w (.ref b :: As) σ post) (hrec : ∀ (A : Nat → Prop) (s : State) (H : Heap) (locs : List Loc), ax_K g A s s.heap → va_S A s.heap H locs → ∃ cell : Cell, H[b]? = some cell ∧ cell.vm.isStatics = false ∧ s.vm.findClass y.cls = some cell.cls) (hY : ax_YV μ2 y As.length) (hl0 : Cond.methodLink μ.2.2.1 idx y ∈ ax_T) (hdd : μ2.2.2.2.2.1 + 1 ≤ μ.2.2.2.2.1) (hmax : 8 + (μ2.2.1 + 11) + μ2.2.2.2.2.2.1 ≤ μ.2.2.2.2.2.1) (hno : μ2.2.2.2.2.2.2 = (0, 0)) {st : List Value} (hst : st = As.reverse ++ .ref b :: rest) (hroom : (rest.map fun v => v.category).sum ≤ 8) (hd : decode μ.1 pc = .ok (.invokevirtual idx, 3)) (hn : pc + 3 = n) (k : ∀ (r : Int32) (σ2 : τ), post r σ2 → AW x μ g A w kk Q n lv (.int r :: rest) σ2) : AW x μ g A w kk Q pc lv st σ := by
  obtain ⟨p, l, e, R, s, m, args, below, meth, c⟩ := x
  obtain ⟨cc, nL, own, ret, d⟩ := μ
  subst hn
  intro hC hkk H locs ls hP hD hS hl
  obtain ⟨hx, hb, hml, hown, hts, hlk, hrt, hA, hK, hR⟩ := id hC
  obtain ⟨cc2, nL2, own2, ret2, f2, l2, bb⟩ := μ2
  have hbb : bb = (0, 0) := hno
  subst hbb
  have hF := ax_free hD hS hA
  exact va_calli (va_runV (C := y.cls) (As := As) (rest := rest) ⟨hx, hb, hml, hown, hts⟩ (hM l H.size) ⟨callB_of As.length hts (ax_good hY.1.1) rfl rfl rfl (hts _ hY.1.2.1) (hts _ hl0) hY.1.2.2 ⟨Nat.le_trans hdd hR.1, Nat.le_trans hmax hR.2.1⟩, hts _ hY.2.1, hts _ hY.2.2⟩ ⟨fun a U gg mk q => ⟨q.1, q.2.1, ax_K.call q.2.2.1, q.2.2.2.1, q.2.2.2.2⟩, hrec A s H locs hK hS, fun U hU hW => ⟨rfl, by rw [hU], ax_K.to hK hS hF hW hU, by rw [hU]; exact hP, hD.weaken (fun _ _ _ _ => trivial)⟩⟩ rfl rfl hl.1 hst (lv_room hroom) hd ⟨Nat.le_trans hkk.1 hR.2.2.1, Nat.le_trans hkk.2 hR.2.2.2⟩) hS (fun q _ h => hF q h) hF (fun r u t H1 locs ht hvm hp hB hz1 hk1 hS => k r u hp hC hkk H1 locs ls (by rw [← ht]; exact hB.1) (hB.2.weaken (fun _ _ _ h => hF _ h)) hS hl)
theorem aw_callXv {μ2 : ax_M} {y : MethodName} {idx : Nat} {b : Nat} {As : List Value} {post : τ → Prop} (hM : ax_CV μ2 g y w (.ref b :: As) σ post) (hrec : ∀ (A : Nat → Prop) (s : State) (H : Heap) (locs : List Loc), ax_K g A s s.heap → va_S A s.heap H locs → ∃ cell : Cell, H[b]? = some cell ∧ cell.vm.isStatics = false ∧ s.vm.findClass y.cls = some cell.cls) (hY : ax_YV μ2 y As.length) (hl0 : Cond.methodLink μ.2.2.1 idx y ∈ ax_T) (hdd : μ2.2.2.2.2.1 + 1 ≤ μ.2.2.2.2.1) (hmax : 8 + (μ2.2.1 + 11) + μ2.2.2.2.2.2.1 ≤ μ.2.2.2.2.2.1) (hno : μ2.2.2.2.2.2.2 = (0, 0)) {st : List Value} (hst : st = As.reverse ++ .ref b :: rest) (hroom : (rest.map fun v => v.category).sum ≤ 8) (hd : decode μ.1 pc = .ok (.invokevirtual idx, 3)) (hn : pc + 3 = n) (k : ∀ σ2 : τ, post σ2 → AW x μ g A w kk Q n lv rest σ2) : AW x μ g A w kk Q pc lv st σ := by
  obtain ⟨p, l, e, R, s, m, args, below, meth, c⟩ := x
  obtain ⟨cc, nL, own, ret, d⟩ := μ
  subst hn
  intro hC hkk H locs ls hP hD hS hl
  obtain ⟨hx, hb, hml, hown, hts, hlk, hrt, hA, hK, hR⟩ := id hC
  obtain ⟨cc2, nL2, own2, ret2, f2, l2, bb⟩ := μ2
  have hbb : bb = (0, 0) := hno
  subst hbb
  have hF := ax_free hD hS hA
  exact va_callv (va_runV (C := y.cls) (As := As) (rest := rest) ⟨hx, hb, hml, hown, hts⟩ (hM l H.size) ⟨callB_of As.length hts (ax_good hY.1.1) rfl rfl rfl (hts _ hY.1.2.1) (hts _ hl0) hY.1.2.2 ⟨Nat.le_trans hdd hR.1, Nat.le_trans hmax hR.2.1⟩, hts _ hY.2.1, hts _ hY.2.2⟩ ⟨fun a U gg mk q => ⟨q.1, q.2.1, ax_K.call q.2.2.1, q.2.2.2.1, q.2.2.2.2⟩, hrec A s H locs hK hS, fun U hU hW => ⟨rfl, by rw [hU], ax_K.to hK hS hF hW hU, by rw [hU]; exact hP, hD.weaken (fun _ _ _ _ => trivial)⟩⟩ rfl rfl hl.1 hst (lv_room hroom) hd ⟨Nat.le_trans hkk.1 hR.2.2.1, Nat.le_trans hkk.2 hR.2.2.2⟩) hS (fun q _ h => hF q h) hF (fun u t H1 locs ht hvm hp hB hz1 hk1 hS => k u hp hC hkk H1 locs ls (by rw [← ht]; exact hB.1) (hB.2.weaken (fun _ _ _ h => hF _ h)) hS hl)
theorem aw_let {σ2 : τ} {st : List Value} (h : σ = σ2) (k : AW x μ g A w kk Q pc lv st σ2) : AW x μ g A w kk Q pc lv st σ := h ▸ k
theorem aw_gets {C nm ds : String} {v : Value} {idx : Nat} (hZ : ∀ (A : Nat → Prop) (s : State), ax_K g A s s.heap → va_Z C nm ds v A s s.heap) (hd : decode μ.1 pc = .ok (.getstatic idx, 3)) (hn : pc + 3 = n) (hl0 : Cond.fieldLink μ.2.2.1 idx C nm ds ∈ ax_T) (k : AW x μ g A w kk Q n lv (v :: rest) σ) : AW x μ g A w kk Q pc lv rest σ := by
  obtain ⟨p, l, e, R, s, m, args, below, meth, c⟩ := x
  obtain ⟨cc, nL, own, ret, d⟩ := μ
  subst hn
  intro hC hkk H locs ls hP hD hS hl
  obtain ⟨hx, hb, hml, hown, hts, hlk, hrt, hA, hK, hR⟩ := id hC
  exact va_gets hx hb (hZ A s hK) hS hown (hts _ hl0) (fun _ h => h) hd (k hC hkk H locs ls hP hD hS hl)
theorem aw_getsN {C nm ds host : String} {v : Value} {idx : Nat} (hZ : ∀ (A : Nat → Prop) (s : State), ax_K g A s s.heap → va_Z C nm ds v A s s.heap) (hd : decode μ.1 pc = .ok (.getstatic idx, 3)) (hn : pc + 3 = n) (hl0 : Cond.fieldLinkNest μ.2.2.1 idx C nm ds host ∈ ax_N) (k : AW x μ g A w kk Q n lv (v :: rest) σ) : AW x μ g A w kk Q pc lv rest σ := by
  obtain ⟨p, l, e, R, s, m, args, below, meth, c⟩ := x
  obtain ⟨cc, nL, own, ret, d⟩ := μ
  subst hn
  intro hC hkk H locs ls hP hD hS hl
  obtain ⟨hx, hb, hml, hown, hts, hlk, hrt, hA, hK, hR⟩ := id hC
  exact va_getsN hx hb (hZ A s hK) hS hown (va_Nw.use rfl (hK.2.1 _ hl0)) (fun _ h => h) hd (k hC hkk H locs ls hP hD hS hl)
theorem aw_ti {t N : Nat} {f : Nat → Int32} (hT : ∀ (A : Nat → Prop) (s : State), ax_K g A s s.heap → va_T .int t N (fun j => .int (f j)) A s s.heap) {i : Int32} (hi : vp_in i N) (hd : decode μ.1 pc = .ok (.iaload, 1)) (hn : pc + 1 = n) (k : AW x μ g A w kk Q n lv (.int (f i.toNatClampNeg) :: rest) σ) : AW x μ g A w kk Q pc lv (.int i :: .ref t :: rest) σ := by
  obtain ⟨p, l, e, R, s, m, args, below, meth, c⟩ := x
  obtain ⟨cc, nL, own, ret, d⟩ := μ
  subst hn
  intro hC hkk H locs ls hP hD hS hl
  obtain ⟨hx, hb, hml, hown, hts, hlk, hrt, hA, hK, hR⟩ := id hC
  exact va_ti hx hb (hT A s hK) hS hi rfl hd (k hC hkk H locs ls hP hD hS hl)
theorem aw_copyi {idx : Nat} (q0 q1 t0 t1 : Nat) {a0 a1 : Nat} {c0 c1 : ClassId} {n0 n1 : Nat} {f f1 : Nat → Int32} {ty : FieldType} (ha0 : (w σ)[q0]? = some (a0, .inl (c0, n0, .inl f))) (ha1 : (w σ)[q1]? = some (a1, .inl (c1, n1, .inl f1))) (ht0 : (ax_tys g)[t0]? = some (c0, ty)) (ht1 : (ax_tys g)[t1]? = some (c1, ty)) (hprim : refKind ty = false) (hfit : ∀ v : Int32, fits ty (.int v) = true) {sp dp z : Int32} (hb0 : cpB sp dp z n0 n1 = true) (hdd : 1 ≤ μ.2.2.2.2.1) (hlo : (rest.map fun v => v.category).sum + (nativeFrameWords "java/lang/System" "arraycopy" 5 + 11) ≤ μ.2.2.2.2.2.1) (hl0 : Cond.methodLink μ.2.2.1 idx arraycopyName ∈ ax_T) {σ2 : τ} (hset : (w σ).set q1 (a1, .inl (c1, n1, .inl (va_cpy f f1 sp.toNatClampNeg dp.toNatClampNeg z.toNatClampNeg))) = w σ2) (hd : decode μ.1 pc = .ok (.invokestatic idx, 3)) (hn : pc + 3 = n) (k : AW x μ g A w kk Q n lv rest σ2) : AW x μ g A w kk Q pc lv (.int z :: .int dp :: .ref a1 :: .int sp :: .ref a0 :: rest) σ := by
  obtain ⟨p, l, e, R, s, m, args, below, meth, c⟩ := x
  obtain ⟨cc, nL, own, ret, d⟩ := μ
  subst hn
  intro hC hkk H locs ls hP hD hS hl
  obtain ⟨hx, hb, hml, hown, hts, hlk, hrt, hA, hK, hR⟩ := id hC
  have hb1 : sp.toNatClampNeg + z.toNatClampNeg ≤ n0 ∧ dp.toNatClampNeg + z.toNatClampNeg ≤ n1 ∧ ¬ sp < 0 ∧ ¬ dp < 0 ∧ ¬ z < 0 := by
    simp only [cpB, Bool.and_eq_true, Bool.not_eq_true', decide_eq_false_iff_not, decide_eq_true_eq] at hb0
    exact ⟨hb0.2.2.2.1, hb0.2.2.2.2, hb0.1, hb0.2.1, hb0.2.2.1⟩
  exact va_copyi (D := g.1) hx hb (hml.trans hl.1.symm) hown (hts _ hl0) (hts _ (ax_mem (by decide +kernel) rfl)) (hts _ (ax_mem (by decide +kernel) rfl)) (hts _ (ax_mem (by decide +kernel) rfl)) hK.1 hP hD hS q0 q1 t0 t1 ha0 ha1 ht0 ht1 hprim hb1.2.2.1 hb1.2.2.2.1 hb1.2.2.2.2 hb1.1 hb1.2.1 (fun i _ => hfit _) (Nat.le_trans hdd hR.1) (Nat.le_trans hlo hR.2.1) hd (fun H locs hP hD hS => k hC hkk H locs ls (hset ▸ hP) (hset ▸ hD) hS hl)
theorem aw_ldcS {own tx : String} {idx q : Nat} (hR0 : ∀ (A : Nat → Prop) (s : State), ax_K g A s s.heap → vk_R own idx tx q s) (hown0 : μ.2.2.1 = own) (hd : decode μ.1 pc = .ok (.ldc idx, 2)) (hn : pc + 2 = n) (k : AW x μ g A w kk Q n lv (.ref q :: rest) σ) : AW x μ g A w kk Q pc lv rest σ := by
  obtain ⟨p, l, e, R, s, m, args, below, meth, c⟩ := x
  obtain ⟨cc, nL, own, ret, d⟩ := μ
  subst hn
  intro hC hkk H locs ls hP hD hS hl
  obtain ⟨hx, hb, hml, hown, hts, hlk, hrt, hA, hK, hR⟩ := id hC
  subst hown0
  exact va_ldcS hx hb hown (hR0 A s hK) hd (k hC hkk H locs ls hP hD hS hl)
theorem aw_getX {nm ds : String} {idx q : Nat} {v : Value} (hE : ∀ (A : Nat → Prop) (s : State), ax_K g A s s.heap → va_OF "java/lang/String" nm ds v q A s s.heap) (hd : decode μ.1 pc = .ok (.getfield idx, 3)) (hn : pc + 3 = n) (hl0 : Cond.fieldLink μ.2.2.1 idx "java/lang/String" nm ds ∈ ax_T) (k : AW x μ g A w kk Q n lv (v :: rest) σ) : AW x μ g A w kk Q pc lv (.ref q :: rest) σ := by
  obtain ⟨p, l, e, R, s, m, args, below, meth, c⟩ := x
  obtain ⟨cc, nL, own, ret, d⟩ := μ
  subst hn
  intro hC hkk H locs ls hP hD hS hl
  obtain ⟨hx, hb, hml, hown, hts, hlk, hrt, hA, hK, hR⟩ := id hC
  exact vk_getf hx hb (hE A s hK) hS hown (hts _ hl0) (fun _ h => h) hd (k hC hkk H locs ls hP hD hS hl)
theorem aw_tb {t N : Nat} {f : Nat → Int32} (hT : ∀ (A : Nat → Prop) (s : State), ax_K g A s s.heap → va_T .byte t N (fun j => .int (f j)) A s s.heap) {i : Int32} (hi : vp_in i N) (hd : decode μ.1 pc = .ok (.baload, 1)) (hn : pc + 1 = n) (k : AW x μ g A w kk Q n lv (.int (f i.toNatClampNeg) :: rest) σ) : AW x μ g A w kk Q pc lv (.int i :: .ref t :: rest) σ := by
  obtain ⟨p, l, e, R, s, m, args, below, meth, c⟩ := x
  obtain ⟨cc, nL, own, ret, d⟩ := μ
  subst hn
  intro hC hkk H locs ls hP hD hS hl
  obtain ⟨hx, hb, hml, hown, hts, hlk, hrt, hA, hK, hR⟩ := id hC
  exact va_tb hx hb (hT A s hK) hS hi rfl hd (k hC hkk H locs ls hP hD hS hl)
theorem aw_tlen {t N : Nat} {ty : FieldType} {f : Nat → Value} (hT : ∀ (A : Nat → Prop) (s : State), ax_K g A s s.heap → va_T ty t N f A s s.heap) {v : Int32} (hv : Int32.ofNat N = v) (hd : decode μ.1 pc = .ok (.arraylength, 1)) (hn : pc + 1 = n) (k : AW x μ g A w kk Q n lv (.int v :: rest) σ) : AW x μ g A w kk Q pc lv (.ref t :: rest) σ := by
  obtain ⟨p, l, e, R, s, m, args, below, meth, c⟩ := x
  obtain ⟨cc, nL, own, ret, d⟩ := μ
  subst hn
  intro hC hkk H locs ls hP hD hS hl
  obtain ⟨hx, hb, hml, hown, hts, hlk, hrt, hA, hK, hR⟩ := id hC
  exact va_tlen hx hb (hT A s hK) hS hv hd (k hC hkk H locs ls hP hD hS hl)
theorem aw_getsE {idx : Nat} (hd : decode μ.1 pc = .ok (.getstatic idx, 3)) (hn : pc + 3 = n) (hl0 : Cond.fieldLink μ.2.2.1 idx "jdk/internal/util/Preconditions" "SIOOBE_FORMATTER" "Ljava/util/function/BiFunction;" ∈ ax_T) (k : ∀ v : Value, v.category = 1 → AW x μ g A w kk Q n lv (v :: rest) σ) : AW x μ g A w kk Q pc lv rest σ := by
  obtain ⟨p, l, e, R, s, m, args, below, meth, c⟩ := x
  obtain ⟨cc, nL, own, ret, d⟩ := μ
  subst hn
  intro hC hkk H locs ls hP hD hS hl
  obtain ⟨hx, hb, hml, hown, hts, hlk, hrt, hA, hK, hR⟩ := id hC
  obtain ⟨v, hv, hZ⟩ := hK.2.2.2.2.2.2.2.2
  exact va_gets hx hb hZ hS hown (hts _ hl0) (fun _ h => h) hd (k v hv hC hkk H locs ls hP hD hS hl)
section AXS
variable {w : St → va_W} {σ : St}
theorem gs_PARTS {idx : Nat} (hd : decode μ.1 pc = .ok (.getstatic idx, 3)) (hn : pc + 3 = n) (hl0 : Cond.fieldLink μ.2.2.1 idx "DotConsole" "PARTS" "[I" ∈ ax_T) (k : AW x μ g A w kk Q n lv (.ref (g.2.2.2 0) :: rest) σ) : AW x μ g A w kk Q pc lv rest σ := aw_gets (fun _ _ h => h.2.2.1.1) hd hn hl0 k
theorem gs_PARTSN {idx : Nat} (hd : decode μ.1 pc = .ok (.getstatic idx, 3)) (hn : pc + 3 = n) (hl0 : Cond.fieldLinkNest μ.2.2.1 idx "DotConsole" "PARTS" "[I" "DotConsole" ∈ ax_N) (k : AW x μ g A w kk Q n lv (.ref (g.2.2.2 0) :: rest) σ) : AW x μ g A w kk Q pc lv rest σ := aw_getsN (fun _ _ h => h.2.2.1.1) hd hn hl0 k
theorem gs_TENSN {idx : Nat} (hd : decode μ.1 pc = .ok (.getstatic idx, 3)) (hn : pc + 3 = n) (hl0 : Cond.fieldLinkNest μ.2.2.1 idx "DotConsole" "TENS" "[I" "DotConsole" ∈ ax_N) (k : AW x μ g A w kk Q n lv (.ref (g.2.2.2 1) :: rest) σ) : AW x μ g A w kk Q pc lv rest σ := aw_getsN (fun _ _ h => h.2.2.2.1.1) hd hn hl0 k
theorem al_PARTS {i : Int32} (hd : decode μ.1 pc = .ok (.iaload, 1)) (hn : pc + 1 = n) (hb : inB i 17 = true) (k : AW x μ g A w kk Q n lv (.int (tPARTS i.toNatClampNeg) :: rest) σ) : AW x μ g A w kk Q pc lv (.int i :: .ref (g.2.2.2 0) :: rest) σ := aw_ti (fun _ _ h => h.2.2.1.2) (inB_vp hb) hd hn k
theorem al_TENS {i : Int32} (hd : decode μ.1 pc = .ok (.iaload, 1)) (hn : pc + 1 = n) (hb : inB i 5 = true) (k : AW x μ g A w kk Q n lv (.int (tTENS i.toNatClampNeg) :: rest) σ) : AW x μ g A w kk Q pc lv (.int i :: .ref (g.2.2.2 1) :: rest) σ := aw_ti (fun _ _ h => h.2.2.2.1.2) (inB_vp hb) hd hn k
theorem gx_coder_0 {idx : Nat} (hd : decode μ.1 pc = .ok (.getfield idx, 3)) (hn : pc + 3 = n) (hl0 : Cond.fieldLink μ.2.2.1 idx "java/lang/String" "coder" "B" ∈ ax_T) (k : AW x μ g A w kk Q n lv (.int 0 :: rest) σ) : AW x μ g A w kk Q pc lv (.ref (g.2.2.2 2) :: rest) σ := aw_getX (fun _ _ h => (h.2.2.2.2.2.2.1.1 0 (by decide)).2.1) hd hn hl0 k
theorem gx_value_0 {idx : Nat} (hd : decode μ.1 pc = .ok (.getfield idx, 3)) (hn : pc + 3 = n) (hl0 : Cond.fieldLink μ.2.2.1 idx "java/lang/String" "value" "[B" ∈ ax_T) (k : AW x μ g A w kk Q n lv (.ref (g.2.2.2 4) :: rest) σ) : AW x μ g A w kk Q pc lv (.ref (g.2.2.2 2) :: rest) σ := aw_getX (fun _ _ h => (h.2.2.2.2.2.2.1.1 0 (by decide)).2.2.1) hd hn hl0 k
theorem al_Y0 {i : Int32} (hd : decode μ.1 pc = .ok (.baload, 1)) (hn : pc + 1 = n) (hb : inB i 102 = true) (k : AW x μ g A w kk Q n lv (.int (tWORDS i.toNatClampNeg) :: rest) σ) : AW x μ g A w kk Q pc lv (.int i :: .ref (g.2.2.2 4) :: rest) σ := aw_tb (f := tWORDS) (fun _ _ h => (h.2.2.2.2.2.2.1.1 0 (by decide)).2.2.2) (inB_vp hb) hd hn k
theorem an_Y0 (hd : decode μ.1 pc = .ok (.arraylength, 1)) (hn : pc + 1 = n) (k : AW x μ g A w kk Q n lv (.int 102 :: rest) σ) : AW x μ g A w kk Q pc lv (.ref (g.2.2.2 4) :: rest) σ := aw_tlen (N := 102) (fun _ _ h => (h.2.2.2.2.2.2.1.1 0 (by decide)).2.2.2) (by decide) hd hn k
theorem rx_0 : ∀ (A : Nat → Prop) (s : State) (H : Heap) (locs : List Loc), ax_K g A s s.heap → va_S A s.heap H locs → ∃ cell : Cell, H[g.2.2.2 2]? = some cell ∧ cell.vm.isStatics = false ∧ s.vm.findClass "java/lang/String" = some cell.cls := fun A s H locs h hS => vk_recv (i := 0) h.2.2.2.2.2.2.1 (by decide) hS
theorem gx_coder_1 {idx : Nat} (hd : decode μ.1 pc = .ok (.getfield idx, 3)) (hn : pc + 3 = n) (hl0 : Cond.fieldLink μ.2.2.1 idx "java/lang/String" "coder" "B" ∈ ax_T) (k : AW x μ g A w kk Q n lv (.int 0 :: rest) σ) : AW x μ g A w kk Q pc lv (.ref (g.2.2.2 3) :: rest) σ := aw_getX (fun _ _ h => (h.2.2.2.2.2.2.1.1 1 (by decide)).2.1) hd hn hl0 k
theorem gx_value_1 {idx : Nat} (hd : decode μ.1 pc = .ok (.getfield idx, 3)) (hn : pc + 3 = n) (hl0 : Cond.fieldLink μ.2.2.1 idx "java/lang/String" "value" "[B" ∈ ax_T) (k : AW x μ g A w kk Q n lv (.ref (g.2.2.2 5) :: rest) σ) : AW x μ g A w kk Q pc lv (.ref (g.2.2.2 3) :: rest) σ := aw_getX (fun _ _ h => (h.2.2.2.2.2.2.1.1 1 (by decide)).2.2.1) hd hn hl0 k
theorem al_Y1 {i : Int32} (hd : decode μ.1 pc = .ok (.baload, 1)) (hn : pc + 1 = n) (hb : inB i 15 = true) (k : AW x μ g A w kk Q n lv (.int (tSIGNS i.toNatClampNeg) :: rest) σ) : AW x μ g A w kk Q pc lv (.int i :: .ref (g.2.2.2 5) :: rest) σ := aw_tb (f := tSIGNS) (fun _ _ h => (h.2.2.2.2.2.2.1.1 1 (by decide)).2.2.2) (inB_vp hb) hd hn k
theorem an_Y1 (hd : decode μ.1 pc = .ok (.arraylength, 1)) (hn : pc + 1 = n) (k : AW x μ g A w kk Q n lv (.int 15 :: rest) σ) : AW x μ g A w kk Q pc lv (.ref (g.2.2.2 5) :: rest) σ := aw_tlen (N := 15) (fun _ _ h => (h.2.2.2.2.2.2.1.1 1 (by decide)).2.2.2) (by decide) hd hn k
theorem rx_1 : ∀ (A : Nat → Prop) (s : State) (H : Heap) (locs : List Loc), ax_K g A s s.heap → va_S A s.heap H locs → ∃ cell : Cell, H[g.2.2.2 3]? = some cell ∧ cell.vm.isStatics = false ∧ s.vm.findClass "java/lang/String" = some cell.cls := fun A s H locs h hS => vk_recv (i := 1) h.2.2.2.2.2.2.1 (by decide) hS
theorem ld_0 (hown0 : μ.2.2.1 = "DotConsole$Tokens") (hd : decode μ.1 pc = .ok (.ldc 28, 2)) (hn : pc + 2 = n) (k : AW x μ g A w kk Q n lv (.ref (g.2.2.2 2) :: rest) σ) : AW x μ g A w kk Q pc lv rest σ := aw_ldcS (fun _ _ h => h.2.2.2.2.1) hown0 hd hn k
theorem ld_1 (hown0 : μ.2.2.1 = "DotConsole$Tokens") (hd : decode μ.1 pc = .ok (.ldc 67, 2)) (hn : pc + 2 = n) (k : AW x μ g A w kk Q n lv (.ref (g.2.2.2 3) :: rest) σ) : AW x μ g A w kk Q pc lv rest σ := aw_ldcS (fun _ _ h => h.2.2.2.2.2.1) hown0 hd hn k
theorem gs_COMPACT_STRINGS {idx : Nat} (hd : decode μ.1 pc = .ok (.getstatic idx, 3)) (hn : pc + 3 = n) (hl0 : Cond.fieldLink μ.2.2.1 idx "java/lang/String" "COMPACT_STRINGS" "Z" ∈ ax_T) (k : AW x μ g A w kk Q n lv (.int 1 :: rest) σ) : AW x μ g A w kk Q pc lv rest σ := aw_gets (fun _ _ h => h.2.2.2.2.2.2.2.1) hd hn hl0 k
end AXS
-- String.checkIndex, by hand: it asks a formatter of the JDK's that nobody looks at
abbrev b_Pre_checkIndex : ByteArray := prog_18_method_11_code
def y_Pre_checkIndex : MethodName := ⟨"jdk/internal/util/Preconditions", "checkIndex", "(IILjava/util/function/BiFunction;)I"⟩
def μ_Pre_checkIndex : ax_M := (b_Pre_checkIndex, 3, "jdk/internal/util/Preconditions", some .int, 0, 0, 0, 0)
theorem Y_Pre_checkIndex : ax_YS μ_Pre_checkIndex y_Pre_checkIndex 3 := ⟨⟨ax_mem (by decide +kernel) rfl, ax_mem (by decide +kernel) rfl, by decide, by decide, by decide +kernel⟩, ax_mem (by decide +kernel) rfl⟩
theorem d_Pre_0 : decode b_Pre_checkIndex 0 = .ok (.iload_n 0, 1) := by decide +kernel
theorem d_Pre_1 : decode b_Pre_checkIndex 1 = .ok (.ifCond .lt 8, 3) := by decide +kernel
theorem d_Pre_4 : decode b_Pre_checkIndex 4 = .ok (.iload_n 0, 1) := by decide +kernel
theorem d_Pre_5 : decode b_Pre_checkIndex 5 = .ok (.iload_n 1, 1) := by decide +kernel
theorem d_Pre_6 : decode b_Pre_checkIndex 6 = .ok (.if_icmp .lt 10, 3) := by decide +kernel
theorem d_Pre_16 : decode b_Pre_checkIndex 16 = .ok (.iload_n 0, 1) := by decide +kernel
theorem d_Pre_17 : decode b_Pre_checkIndex 17 = .ok (.ireturn, 1) := by decide +kernel
theorem c_Pre_checkIndex {a0 a1 : Int32} {v : Value} (hv : v.category = 1) (h0 : ¬ a0 < 0) (h1 : a0 < a1) : ax_CI μ_Pre_checkIndex g y_Pre_checkIndex w [.int a0, .int a1, v] σ (fun _ s => s = σ) := by
  refine ax_CI.of (by decide +kernel) rfl (by simp only [lg_sl, List.flatMap_cons, List.flatMap_nil, hv]; exact Nat.le_of_ble_eq_true rfl) (fun x A _ => ?_)
  show AW x μ_Pre_checkIndex g A w (0, 0) _ 0 [(0, .int a0), (1, .int a1), (2, v)] [] σ
  refine aw_iload_n (n := 1) d_Pre_0 rfl rfl 0 rfl ?_
  refine aw_if_lt (n := 4) (t := 9) d_Pre_1 rfl (by decide) (fun c => absurd c h0) (fun _ => ?_)
  refine aw_iload_n (n := 5) d_Pre_4 rfl rfl 0 rfl ?_
  refine aw_iload_n (n := 6) d_Pre_5 rfl rfl 1 rfl ?_
  refine aw_icmp_lt (n := 9) (t := 16) d_Pre_6 rfl (by decide) (fun _ => ?_) (fun c => absurd h1 c)
  refine aw_iload_n (n := 17) d_Pre_16 rfl rfl 0 rfl ?_
  exact aw_iret d_Pre_17 rfl rfl
abbrev b_checkIndex : ByteArray := prog_13_method_155_code
def y_checkIndex : MethodName := ⟨"java/lang/String", "checkIndex", "(II)V"⟩
def μ_checkIndex : ax_M := (b_checkIndex, 2, "java/lang/String", none, 1, 22, 0, 0)
theorem Y_checkIndex : ax_YS μ_checkIndex y_checkIndex 2 := ⟨⟨ax_mem (by decide +kernel) rfl, ax_mem (by decide +kernel) rfl, by decide, by decide, by decide +kernel⟩, ax_mem (by decide +kernel) rfl⟩
theorem d_ckI_0 : decode b_checkIndex 0 = .ok (.iload_n 0, 1) := by decide +kernel
theorem d_ckI_1 : decode b_checkIndex 1 = .ok (.iload_n 1, 1) := by decide +kernel
theorem d_ckI_2 : decode b_checkIndex 2 = .ok (.getstatic 1053, 3) := by decide +kernel
theorem d_ckI_5 : decode b_checkIndex 5 = .ok (.invokestatic 1059, 3) := by decide +kernel
theorem d_ckI_8 : decode b_checkIndex 8 = .ok (.pop, 1) := by decide +kernel
theorem d_ckI_9 : decode b_checkIndex 9 = .ok (.return_, 1) := by decide +kernel
def J_checkIndex (_ : Nat) (a0 a1 : Int32) (σ : St) : Option St := if (decide (¬ a0 < 0) && decide (a0 < a1)) = true then some σ else none
theorem c_checkIndex {N : Nat} {w : St → va_W} {σ s9 : St} {a0 a1 : Int32} (hJ : J_checkIndex N a0 a1 σ = some s9) : ax_CV μ_checkIndex g y_checkIndex w [.int a0, .int a1] σ (ax_eqV s9) := by
  refine ax_CV.of (by decide +kernel) rfl (Nat.le_of_ble_eq_true rfl) (fun x A _ => ?_)
  show AW x μ_checkIndex g A w (0, 0) _ 0 [(0, .int a0), (1, .int a1)] [] σ
  rw [J_checkIndex] at hJ
  obtain ⟨h9, hJ⟩ := ax_need hJ
  simp only [Bool.and_eq_true, decide_eq_true_eq] at h9
  refine aw_iload_n (n := 1) d_ckI_0 rfl rfl 0 rfl ?_
  refine aw_iload_n (n := 2) d_ckI_1 rfl rfl 1 rfl ?_
  refine aw_getsE (n := 5) d_ckI_2 rfl (ax_mem (by decide +kernel) rfl) (fun v hv => ?_)
  refine aw_callSi (n := 8) (As := [.int a0, .int a1, v]) (rest := []) (c_Pre_checkIndex hv h9.1 h9.2) Y_Pre_checkIndex (ax_mem (by decide +kernel) rfl) (by decide) (by decide) rfl rfl (Nat.le_of_ble_eq_true rfl) d_ckI_5 rfl (fun r9 s8 hp => ?_)
  subst hp
  refine aw_pop (n := 9) d_ckI_8 rfl rfl ?_
  exact aw_vret d_ckI_9 rfl (ax_retV hJ)
end AX
