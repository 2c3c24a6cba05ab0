/-! WORLDS THAT GROW: AW over a list of cells. Printed by wip/whole/gen_an.py. -/
section AN
variable {x : ax_X} {μ : ax_M} {g : ax_G} {A : Nat → Prop} {kk kk2 : Nat × Nat} {Q : State → Prop} {pc n idx : Nat} {lv : List (Nat × Value)} {rest st : List Value} {ws ws2 : va_W}
theorem an_ws (h : ws = ws2) (k : AW x μ g A id kk Q pc lv st ws2) : AW x μ g A id kk Q pc lv st ws := h ▸ k
theorem an_sub {wr : va_W} (is : List Nat) (hn : va_nd is = true) (hs : is.map (fun i => ws[i]?) = wr.map some) (k : AW x μ g A id kk Q pc lv st wr) : AW x μ g A id kk Q pc lv st ws := by
  obtain ⟨p, l, e, R, s, m, args, below, meth, c⟩ := x
  obtain ⟨cc, nL, own, ret, d⟩ := μ
  intro hC hkk H locs ls hP hD hS hl
  exact k hC hkk H locs ls (fun i q hi => by obtain ⟨j, hj⟩ := va_in_of is hs hi; exact hP j q hj.2) (hD.sub is hn hs) hS hl
theorem an_obj {a : Nat} (hl0 : Cond.methodLink μ.2.2.1 idx objectInit ∈ ax_T) (hdd : 1 ≤ μ.2.2.2.2.1) (hlo : (rest.map fun v => v.category).sum + 12 ≤ μ.2.2.2.2.2.1) (hd : decode μ.1 pc = .ok (.invokespecial idx, 3)) (hn : pc + 3 = n) (k : AW x μ g A id kk Q n lv rest ws) : AW x μ g A id kk Q pc lv (.ref a :: rest) ws := by
  obtain ⟨p, l, e, R, s, m, args, below, meth, c⟩ := x
  obtain ⟨cc, nL, own, ret, d⟩ := μ
  subst hn
  intro hC hkk H locs ls hP hD hS hl
  obtain ⟨hx, hb, hml, hown, hts, hlk, hrt, hA, hK, hR⟩ := id hC
  have h9 := Nat.le_trans hlo hR.2.1
  exact W.objInit hx hb hown (hts _ hl0) (hts _ (ax_mem (by decide +kernel) rfl)) (hts _ (ax_mem (by decide +kernel) rfl)) rfl (by rw [hml]; exact hl.1) rfl hd (Nat.le_trans hdd hR.1) (by show 2 * 0 + _ + 12 ≤ _; omega) (k hC hkk H locs ls hP hD hS hl)
theorem an_new {C : String} {T : u_T} {N ci : Nat} {fs : List Value} (ty : Nat → FieldType) (hty : ∀ k, k < N → parseFieldDescriptor (T k).2.2.1 = some (ty k)) (hin : ∀ z ∈ u_ws C T N, z ∈ ax_T) (hcl : Cond.classLink μ.2.2.1 idx C ∈ ax_T) (hinst : Cond.instantiable C N ∈ ax_T) (hini : Cond.initialized C ∈ ax_T) (hc : classes[ci]? = some (C, T, N)) (hfs : ∀ j, j < N → defaultValue (ty j) = vp_V fs j) (hk1 : kk.1 + 1 ≤ μ.2.2.2.2.2.2.1) (hk2 : kk.2 + N ≤ μ.2.2.2.2.2.2.2) (hk : (kk.1 + 1, kk.2 + N) = kk2) (hd : decode μ.1 pc = .ok (.new idx, 3)) (hn : pc + 3 = n) (k : ∀ q : Nat, AW x μ g A id kk2 Q n lv (.ref q :: rest) (ws ++ [(q, .inr (ci, fs))])) : AW x μ g A id kk Q pc lv rest ws := by
  obtain ⟨p, l, e, R, s, m, args, below, meth, c⟩ := x
  obtain ⟨cc, nL, own, ret, d⟩ := μ
  subst hn
  intro hC hkk H locs ls hP hD hS hl
  obtain ⟨hx, hb, hml, hown, hts, hlk, hrt, hA, hK, hR⟩ := id hC
  subst hk
  exact va_new (D := g.1) hx hb hts hin ty hty hown (hts _ hcl) (hts _ hinst) (hts _ hini) hK.1 hP hD hS hA hc hfs (Nat.le_trans hk1 hR.2.2.1) (Nat.le_trans hk2 hR.2.2.2) hd (fun q H hP hD hS => k q hC ⟨hk1, hk2⟩ H locs ls hP hD hS hl)
theorem an_newi {z : Int32} {N : Nat} (hz : ¬ z < 0) (hN : z.toNatClampNeg = N) (hb4 : N * componentBytes .int ≤ 536870912) (hk1 : kk.1 + 1 ≤ μ.2.2.2.2.2.2.1) (hk2 : kk.2 + N ≤ μ.2.2.2.2.2.2.2) (hk : (kk.1 + 1, kk.2 + N) = kk2) (hd : decode μ.1 pc = .ok (.newarray .int, 2)) (hn : pc + 2 = n) (k : ∀ q : Nat, AW x μ g A id kk2 Q n lv (.ref q :: rest) (ws ++ [(q, .inl (g.2.2.1 0, N, .inl (fun _ => 0)))])) : AW x μ g A id kk Q pc lv (.int z :: rest) ws := by
  obtain ⟨p, l, e, R, s, m, args, below, meth, c⟩ := x
  obtain ⟨cc, nL, own, ret, d⟩ := μ
  subst hn
  intro hC hkk H locs ls hP hD hS hl
  obtain ⟨hx, hb, hml, hown, hts, hlk, hrt, hA, hK, hR⟩ := id hC
  subst hk
  refine va_newa (D := g.1) (atype := .int) (a0 := (N, .inl (fun _ => 0))) hx hb (hts _ (ax_mem (z := Cond.arrayClass .int) (by decide +kernel) rfl)) rfl hK.1 hP hD hS hA (fun _ => rfl) hz hN hb4 (Nat.le_trans hk1 hR.2.2.1) (Nat.le_trans hk2 hR.2.2.2) hd (fun q cA H hK2 hP hD hS => ?_)
  have e1 : s.vm.findClass "[I" = some cA := va_nm_int ((hK2.2 2 (cA, .int) rfl).2)
  have e2 : s.vm.findClass "[I" = some (g.2.2.1 0) := va_nm_int ((hK.1.2 0 _ rfl).2)
  have e : cA = g.2.2.1 0 := Option.some.inj (e1.symm.trans e2)
  subst e
  exact k q hC ⟨hk1, hk2⟩ H locs ls hP hD hS hl
theorem an_newc {z : Int32} {N : Nat} (hz : ¬ z < 0) (hN : z.toNatClampNeg = N) (hb4 : N * componentBytes .char ≤ 536870912) (hk1 : kk.1 + 1 ≤ μ.2.2.2.2.2.2.1) (hk2 : kk.2 + N ≤ μ.2.2.2.2.2.2.2) (hk : (kk.1 + 1, kk.2 + N) = kk2) (hd : decode μ.1 pc = .ok (.newarray .char, 2)) (hn : pc + 2 = n) (k : ∀ q : Nat, AW x μ g A id kk2 Q n lv (.ref q :: rest) (ws ++ [(q, .inl (g.2.2.1 1, N, .inl (fun _ => 0)))])) : AW x μ g A id kk Q pc lv (.int z :: rest) ws := by
  obtain ⟨p, l, e, R, s, m, args, below, meth, c⟩ := x
  obtain ⟨cc, nL, own, ret, d⟩ := μ
  subst hn
  intro hC hkk H locs ls hP hD hS hl
  obtain ⟨hx, hb, hml, hown, hts, hlk, hrt, hA, hK, hR⟩ := id hC
  subst hk
  refine va_newa (D := g.1) (atype := .char) (a0 := (N, .inl (fun _ => 0))) hx hb (hts _ (ax_mem (z := Cond.arrayClass .char) (by decide +kernel) rfl)) rfl hK.1 hP hD hS hA (fun _ => rfl) hz hN hb4 (Nat.le_trans hk1 hR.2.2.1) (Nat.le_trans hk2 hR.2.2.2) hd (fun q cA H hK2 hP hD hS => ?_)
  have e1 : s.vm.findClass "[C" = some cA := va_nm_char ((hK2.2 2 (cA, .char) rfl).2)
  have e2 : s.vm.findClass "[C" = some (g.2.2.1 1) := va_nm_char ((hK.1.2 1 _ rfl).2)
  have e : cA = g.2.2.1 1 := Option.some.inj (e1.symm.trans e2)
  subst e
  exact k q hC ⟨hk1, hk2⟩ H locs ls hP hD hS hl
theorem an_putF {C : String} {T : u_T} {N ci a : Nat} (q0 : Nat) {fs : List Value} (he : ws[q0]? = some (a, .inr (ci, fs))) (hc : classes[ci]? = some (C, T, N)) (fk : Nat) (hk : fk < N) {v : Value} {ty : FieldType} (ty0 : Nat → FieldType) (hty : ∀ k, k < N → parseFieldDescriptor (T k).2.2.1 = some (ty0 k)) (hnm : ∀ a, a < N → ∀ b, b < N → a ≠ b → (T a).2.1 ≠ (T b).2.1) (hfin : (T fk).2.2.2 = true) (hde : parseFieldDescriptor (T fk).2.2.1 = some ty) (hna : narrow ty v = v) (hfit : fits ty v = true) (hlen : fk < fs.length) (hin : ∀ z ∈ u_ws C T N, z ∈ ax_T) (hdecl : (T fk).1 = μ.2.2.1) (hname : x.2.2.2.2.2.2.2.2.1.name = "<init>") (hl0 : Cond.fieldLink μ.2.2.1 idx (T fk).1 (T fk).2.1 (T fk).2.2.1 ∈ ax_T) (hd : decode μ.1 pc = .ok (.putfield idx, 3)) (hn : pc + 3 = n) (k : AW x μ g A id kk Q n lv rest (ws.set q0 (a, .inr (ci, fs.set fk v)))) : AW x μ g A id kk Q pc lv (v :: .ref a :: rest) ws := by
  obtain ⟨p, l, e, R, s, m, args, below, meth, c⟩ := x
  obtain ⟨cc, nL, own, ret, d⟩ := μ
  subst hn
  intro hC hkk H locs ls hP hD hS hl
  obtain ⟨hx, hb, hml, hown, hts, hlk, hrt, hA, hK, hR⟩ := id hC
  exact va_putF (D := g.1) (ref := (T fk).1) (ty := ty) hx hb hts hin ty0 hty hnm hown hK.1 hP hD hS q0 he hc fk hk (hts _ hl0) (fun _ h9 => h9) hfin hname hdecl hde hna hfit hlen hd (fun H locs hP hD hS => k hC hkk H locs ls hP hD hS hl)
theorem an_putS {C : String} {T : u_T} {N ci a : Nat} (q0 : Nat) {fs : List Value} (he : ws[q0]? = some (a, .inr (ci, fs))) (hc : classes[ci]? = some (C, T, N)) (fk : Nat) (hk : fk < N) {v : Value} {ty : FieldType} (ty0 : Nat → FieldType) (hty : ∀ k, k < N → parseFieldDescriptor (T k).2.2.1 = some (ty0 k)) (hnm : ∀ a, a < N → ∀ b, b < N → a ≠ b → (T a).2.1 ≠ (T b).2.1) (hfin : (T fk).2.2.2 = false) (hde : parseFieldDescriptor (T fk).2.2.1 = some ty) (hna : narrow ty v = v) (hfit : fits ty v = true) (hlen : fk < fs.length) (hin : ∀ z ∈ u_ws C T N, z ∈ ax_T) (hl0 : Cond.fieldLink μ.2.2.1 idx (T fk).1 (T fk).2.1 (T fk).2.2.1 ∈ ax_T) (hd : decode μ.1 pc = .ok (.putfield idx, 3)) (hn : pc + 3 = n) (k : AW x μ g A id kk Q n lv rest (ws.set q0 (a, .inr (ci, fs.set fk v)))) : AW x μ g A id kk Q pc lv (v :: .ref a :: rest) ws :=
  aw_put (σ := ws) (σ2 := ws.set q0 (a, .inr (ci, fs.set fk v))) q0 he hc fk hk ty0 hty hnm hfin hde hna hfit hlen hin rfl hl0 rfl hd hn k
theorem an_callI {μ2 : ax_M} {y : MethodName} {b : Nat} {As : List Value} {post : va_W → Prop} {wc wr : va_W} (hM : ax_CV μ2 g y id (.ref b :: As) wc post) (isC isR : List Nat) (hCs : isC.map (fun i => ws[i]?) = wc.map some) (hRs : isR.map (fun i => ws[i]?) = wr.map some) (hnC : va_nd isC = true) (hnR : va_nd isR = true) (hdis : ∀ i ∈ isR, i ∉ isC) (hY : ax_Y μ2 y As.length) (hini : Cond.instanceMethod y ∈ ax_T) (hyn : y.name = "<init>") (hl0 : Cond.methodLink μ.2.2.1 idx y ∈ ax_T) (hret : μ2.2.2.2.1 = none) (hdd : μ2.2.2.2.2.1 + 1 ≤ μ.2.2.2.2.1) (hmax : 8 + (μ2.2.1 + 11) + μ2.2.2.2.2.2.1 ≤ μ.2.2.2.2.2.1) (hk1 : kk.1 + μ2.2.2.2.2.2.2.1 ≤ μ.2.2.2.2.2.2.1) (hk2 : kk.2 + μ2.2.2.2.2.2.2.2 ≤ μ.2.2.2.2.2.2.2) (hk : (kk.1 + μ2.2.2.2.2.2.2.1, kk.2 + μ2.2.2.2.2.2.2.2) = kk2) (hst : st = As.reverse ++ .ref b :: rest) (hroom : (rest.map fun v => v.category).sum ≤ 8) (hd : decode μ.1 pc = .ok (.invokespecial idx, 3)) (hn : pc + 3 = n) (k : ∀ u : va_W, post u → AW x μ g A id kk2 Q n lv rest (wr ++ u)) : AW x μ g A id kk Q pc lv st ws := by
  obtain ⟨p, l, e, R, s, m, args, below, meth, c⟩ := x
  obtain ⟨cc, nL, own, ret, d⟩ := μ
  subst hn
  intro hC hkk H locs ls hP hD hS hl
  obtain ⟨hx, hb, hml, hown, hts, hlk, hrt, hA, hK, hR⟩ := id hC
  obtain ⟨cc2, nL2, own2, ret2, f2, l2, bc2, bs2⟩ := μ2
  have hret : ret2 = none := hret
  subst hret
  subst hk
  have hF := va_free (wc := wc) hD hS hA isC hCs
  have hPc : va_P g.1 classes wc H := fun i q hi => by obtain ⟨j, hj⟩ := va_in_of isC hCs hi; exact hP j q hj.2
  have hDc : va_D A wc := hD.sub isC hnC hCs
  refine va_callv (va_runI (As := As) (rest := rest) ⟨hx, hb, hml, hown, hts⟩ (hM l H.size) ⟨callB_of As.length hts (ax_good hY.1) rfl rfl rfl (hts _ hY.2.1) (hts _ hl0) hY.2.2 ⟨Nat.le_trans hdd hR.1, Nat.le_trans hmax hR.2.1⟩, hyn, hts _ hini⟩ ⟨fun a U gg mk q => ⟨q.1, q.2.1, ax_K.call q.2.2.1, q.2.2.2.1, q.2.2.2.2⟩, fun U hU hW => ⟨rfl, by rw [hU], ax_K.to hK hS hF hW hU, by rw [hU]; exact hPc, hDc.weaken (fun _ _ _ _ => trivial)⟩⟩ rfl rfl hl.1 hst (lv_room hroom) hd ⟨Nat.le_trans hk1 hR.2.2.1, Nat.le_trans hk2 hR.2.2.2⟩) hS (fun q _ h => hF q h) hF (fun u t H1 locs ht hvm hp hB hz1 hk9 hS => ?_)
  obtain ⟨hP2, hD2⟩ := va_join (wr := wr) (w1 := u) hP hD isC isR hCs hRs hnR hdis hk9 hF (by rw [← ht]; exact hB.1) hB.2
  exact k u hp hC ⟨hk1, hk2⟩ H1 locs ls hP2 hD2 hS hl
theorem an_callIN {μ2 : ax_M} {y : MethodName} {b : Nat} {As : List Value} {post : va_W → Prop} {wc wr : va_W} (hM : ax_CV μ2 g y id (.ref b :: As) wc post) (isC isR : List Nat) (hCs : isC.map (fun i => ws[i]?) = wc.map some) (hRs : isR.map (fun i => ws[i]?) = wr.map some) (hnC : va_nd isC = true) (hnR : va_nd isR = true) (hdis : ∀ i ∈ isR, i ∉ isC) (hY : ax_Y μ2 y As.length) (hini : Cond.instanceMethod y ∈ ax_T) (hyn : y.name = "<init>") {host : String} (hl0 : Cond.methodLinkNest μ.2.2.1 idx y host ∈ ax_N) (hret : μ2.2.2.2.1 = none) (hdd : μ2.2.2.2.2.1 + 1 ≤ μ.2.2.2.2.1) (hmax : 8 + (μ2.2.1 + 11) + μ2.2.2.2.2.2.1 ≤ μ.2.2.2.2.2.1) (hk1 : kk.1 + μ2.2.2.2.2.2.2.1 ≤ μ.2.2.2.2.2.2.1) (hk2 : kk.2 + μ2.2.2.2.2.2.2.2 ≤ μ.2.2.2.2.2.2.2) (hk : (kk.1 + μ2.2.2.2.2.2.2.1, kk.2 + μ2.2.2.2.2.2.2.2) = kk2) (hst : st = As.reverse ++ .ref b :: rest) (hroom : (rest.map fun v => v.category).sum ≤ 8) (hd : decode μ.1 pc = .ok (.invokespecial idx, 3)) (hn : pc + 3 = n) (k : ∀ u : va_W, post u → AW x μ g A id kk2 Q n lv rest (wr ++ u)) : AW x μ g A id kk Q pc lv st ws := by
  obtain ⟨p, l, e, R, s, m, args, below, meth, c⟩ := x
  obtain ⟨cc, nL, own, ret, d⟩ := μ
  subst hn
  intro hC hkk H locs ls hP hD hS hl
  obtain ⟨hx, hb, hml, hown, hts, hlk, hrt, hA, hK, hR⟩ := id hC
  obtain ⟨cc2, nL2, own2, ret2, f2, l2, bc2, bs2⟩ := μ2
  have hret : ret2 = none := hret
  subst hret
  subst hk
  have hF := va_free (wc := wc) hD hS hA isC hCs
  have hPc : va_P g.1 classes wc H := fun i q hi => by obtain ⟨j, hj⟩ := va_in_of isC hCs hi; exact hP j q hj.2
  have hDc : va_D A wc := hD.sub isC hnC hCs
  refine va_callv (va_runIN (As := As) (rest := rest) ⟨hx, hb, hml, hown, hts⟩ (hM l H.size) ⟨va_cnB As.length hts (ax_good hY.1) rfl rfl rfl (hK.2.1 _ hl0) (hts _ hY.2.1) hY.2.2 ⟨Nat.le_trans hdd hR.1, Nat.le_trans hmax hR.2.1⟩, hyn, hts _ hini⟩ ⟨fun a U gg mk q => ⟨q.1, q.2.1, ax_K.call q.2.2.1, q.2.2.2.1, q.2.2.2.2⟩, fun U hU hW => ⟨rfl, by rw [hU], ax_K.to hK hS hF hW hU, by rw [hU]; exact hPc, hDc.weaken (fun _ _ _ _ => trivial)⟩⟩ rfl rfl hl.1 hst (lv_room hroom) hd ⟨Nat.le_trans hk1 hR.2.2.1, Nat.le_trans hk2 hR.2.2.2⟩) hS (fun q _ h => hF q h) hF (fun u t H1 locs ht hvm hp hB hz1 hk9 hS => ?_)
  obtain ⟨hP2, hD2⟩ := va_join (wr := wr) (w1 := u) hP hD isC isR hCs hRs hnR hdis hk9 hF (by rw [← ht]; exact hB.1) hB.2
  exact k u hp hC ⟨hk1, hk2⟩ H1 locs ls hP2 hD2 hS hl
end AN
