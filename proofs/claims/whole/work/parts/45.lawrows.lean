/-! THE LAW: the world of its loop (class and reference), its rows. Printed by wip/whole/gen_law.py. -/
def wL (g : ax_G) (p : St × St) : va_W := wC g p.1 ++ wM g p.2
section LW
variable {x : ax_X} {μ : ax_M} {g : ax_G} {A : Nat → Prop} {kk : Nat × Nat} {Q : State → Prop} {pc n idx : Nat} {lv : List (Nat × Value)} {rest st : List Value} {σ τ : St}
theorem lw_callC {μ2 : ax_M} {y : MethodName} {As : List Value} {post : Int32 → St → Prop} (hM : ax_CI μ2 g y (wC g) (.ref (g.2.1 0) :: As) σ post) (hY : ax_YV μ2 y As.length) (hcls : R_Con = y.cls) (hl0 : Cond.methodLink μ.2.2.1 idx y ∈ ax_T) (hdd : μ2.2.2.2.2.1 + 1 ≤ μ.2.2.2.2.1) (hmax : 8 + (μ2.2.1 + 11) + μ2.2.2.2.2.2.1 ≤ μ.2.2.2.2.2.1) (hno : μ2.2.2.2.2.2.2 = (0, 0)) (hst : st = As.reverse ++ .ref (g.2.1 0) :: rest) (hroom : (rest.map fun v => v.category).sum ≤ 8) (hd : decode μ.1 pc = .ok (.invokevirtual idx, 3)) (hn : pc + 3 = n) (k : ∀ (r : Int32) (s2 : St), post r s2 → AW x μ g A (wL g) kk Q n lv (.int r :: rest) (s2, τ)) : AW x μ g A (wL g) kk Q pc lv st (σ, τ) := by
  obtain ⟨p, l, e, R, s, m, args, below, meth, c⟩ := x
  obtain ⟨cc, nL, own, ret, d⟩ := μ
  subst hn
  intro hC hkk H locs ls hP hD hS hl
  obtain ⟨hx, hb, hml, hown, hts, hlk, hrt, hA, hK, hR⟩ := id hC
  obtain ⟨cc2, nL2, own2, ret2, f2, l2, bb⟩ := μ2
  have hbb : bb = (0, 0) := hno
  subst hbb
  have hCs : [0, 1, 2, 3, 4, 5, 6, 7, 8, 9, 10, 11, 12, 13, 14, 15, 16, 17, 18, 19, 20, 21, 22, 23, 24, 25, 26, 27, 28, 29, 30, 31].map (fun i => (wL g (σ, τ))[i]?) = (wC g σ).map some := rfl
  have hRs : [32, 33, 34, 35, 36, 37, 38, 39, 40, 41, 42, 43, 44, 45, 46, 47, 48].map (fun i => (wL g (σ, τ))[i]?) = (wM g τ).map some := rfl
  have hF := va_free (wc := wC g σ) hD hS hA [0, 1, 2, 3, 4, 5, 6, 7, 8, 9, 10, 11, 12, 13, 14, 15, 16, 17, 18, 19, 20, 21, 22, 23, 24, 25, 26, 27, 28, 29, 30, 31] hCs
  have hPc : va_P g.1 classes (wC g σ) H := hP.sub [0, 1, 2, 3, 4, 5, 6, 7, 8, 9, 10, 11, 12, 13, 14, 15, 16, 17, 18, 19, 20, 21, 22, 23, 24, 25, 26, 27, 28, 29, 30, 31] rfl
  have hDc : va_D A (wC g σ) := hD.sub [0, 1, 2, 3, 4, 5, 6, 7, 8, 9, 10, 11, 12, 13, 14, 15, 16, 17, 18, 19, 20, 21, 22, 23, 24, 25, 26, 27, 28, 29, 30, 31] rfl hCs
  have hrec := va_recv (q0 := 0) (ci := 0) hK.1 hPc rfl rfl
  rw [show (R_Con, F_Con, 6).1 = y.cls from hcls] at hrec
  refine va_calli (va_runV (C := y.cls) (As := As) (rest := rest) ⟨hx, hb, hml, hown, hts⟩ (hM l H.size) ⟨callB_of As.length hts (ax_good hY.1.1) rfl rfl rfl (hts _ hY.1.2.1) (hts _ hl0) hY.1.2.2 ⟨Nat.le_trans hdd hR.1, Nat.le_trans hmax hR.2.1⟩, hts _ hY.2.1, hts _ hY.2.2⟩ ⟨fun a U gg mk q => ⟨q.1, q.2.1, ax_K.call q.2.2.1, q.2.2.2.1, q.2.2.2.2⟩, hrec, fun U hU hW => ⟨rfl, by rw [hU], ax_K.to hK hS hF hW hU, by rw [hU]; exact hPc, hDc.weaken (fun _ _ _ _ => trivial)⟩⟩ rfl rfl hl.1 hst (lv_room hroom) hd ⟨Nat.le_trans hkk.1 hR.2.2.1, Nat.le_trans hkk.2 hR.2.2.2⟩) hS (fun q _ h => hF q h) hF (fun r u t H1 locs ht hvm hp hB hz1 hk9 hS => ?_)
  obtain ⟨hP2, hD2⟩ := va_join (wr := wM g τ) (w1 := wC g u) hP hD [0, 1, 2, 3, 4, 5, 6, 7, 8, 9, 10, 11, 12, 13, 14, 15, 16, 17, 18, 19, 20, 21, 22, 23, 24, 25, 26, 27, 28, 29, 30, 31] [32, 33, 34, 35, 36, 37, 38, 39, 40, 41, 42, 43, 44, 45, 46, 47, 48] hCs hRs rfl (by decide) hk9 hF (by rw [← ht]; exact hB.1) hB.2
  have hP3 : va_P g.1 classes (wL g (u, τ)) H1 := hP2.sub [17, 18, 19, 20, 21, 22, 23, 24, 25, 26, 27, 28, 29, 30, 31, 32, 33, 34, 35, 36, 37, 38, 39, 40, 41, 42, 43, 44, 45, 46, 47, 48, 0, 1, 2, 3, 4, 5, 6, 7, 8, 9, 10, 11, 12, 13, 14, 15, 16] rfl
  have hD3 : va_D A (wL g (u, τ)) := hD2.sub [17, 18, 19, 20, 21, 22, 23, 24, 25, 26, 27, 28, 29, 30, 31, 32, 33, 34, 35, 36, 37, 38, 39, 40, 41, 42, 43, 44, 45, 46, 47, 48, 0, 1, 2, 3, 4, 5, 6, 7, 8, 9, 10, 11, 12, 13, 14, 15, 16] rfl rfl
  exact k r u hp hC hkk H1 locs ls hP3 hD3 hS hl
theorem lw_callM {μ2 : ax_M} {y : MethodName} {As : List Value} {post : Int32 → St → Prop} (hM : ax_CI μ2 g y (wM g) (.ref (g.2.1 32) :: As) τ post) (hY : ax_YV μ2 y As.length) (hcls : R_Mod = y.cls) (hl0 : Cond.methodLink μ.2.2.1 idx y ∈ ax_T) (hdd : μ2.2.2.2.2.1 + 1 ≤ μ.2.2.2.2.1) (hmax : 8 + (μ2.2.1 + 11) + μ2.2.2.2.2.2.1 ≤ μ.2.2.2.2.2.1) (hno : μ2.2.2.2.2.2.2 = (0, 0)) (hst : st = As.reverse ++ .ref (g.2.1 32) :: rest) (hroom : (rest.map fun v => v.category).sum ≤ 8) (hd : decode μ.1 pc = .ok (.invokevirtual idx, 3)) (hn : pc + 3 = n) (k : ∀ (r : Int32) (s2 : St), post r s2 → AW x μ g A (wL g) kk Q n lv (.int r :: rest) (σ, s2)) : AW x μ g A (wL g) kk Q pc lv st (σ, τ) := by
  obtain ⟨p, l, e, R, s, m, args, below, meth, c⟩ := x
  obtain ⟨cc, nL, own, ret, d⟩ := μ
  subst hn
  intro hC hkk H locs ls hP hD hS hl
  obtain ⟨hx, hb, hml, hown, hts, hlk, hrt, hA, hK, hR⟩ := id hC
  obtain ⟨cc2, nL2, own2, ret2, f2, l2, bb⟩ := μ2
  have hbb : bb = (0, 0) := hno
  subst hbb
  have hCs : [32, 33, 34, 35, 36, 37, 38, 39, 40, 41, 42, 43, 44, 45, 46, 47, 48].map (fun i => (wL g (σ, τ))[i]?) = (wM g τ).map some := rfl
  have hRs : [0, 1, 2, 3, 4, 5, 6, 7, 8, 9, 10, 11, 12, 13, 14, 15, 16, 17, 18, 19, 20, 21, 22, 23, 24, 25, 26, 27, 28, 29, 30, 31].map (fun i => (wL g (σ, τ))[i]?) = (wC g σ).map some := rfl
  have hF := va_free (wc := wM g τ) hD hS hA [32, 33, 34, 35, 36, 37, 38, 39, 40, 41, 42, 43, 44, 45, 46, 47, 48] hCs
  have hPc : va_P g.1 classes (wM g τ) H := hP.sub [32, 33, 34, 35, 36, 37, 38, 39, 40, 41, 42, 43, 44, 45, 46, 47, 48] rfl
  have hDc : va_D A (wM g τ) := hD.sub [32, 33, 34, 35, 36, 37, 38, 39, 40, 41, 42, 43, 44, 45, 46, 47, 48] rfl hCs
  have hrec := va_recv (q0 := 0) (ci := 8) hK.1 hPc rfl rfl
  rw [show (R_Mod, F_Mod, 30).1 = y.cls from hcls] at hrec
  refine va_calli (va_runV (C := y.cls) (As := As) (rest := rest) ⟨hx, hb, hml, hown, hts⟩ (hM l H.size) ⟨callB_of As.length hts (ax_good hY.1.1) rfl rfl rfl (hts _ hY.1.2.1) (hts _ hl0) hY.1.2.2 ⟨Nat.le_trans hdd hR.1, Nat.le_trans hmax hR.2.1⟩, hts _ hY.2.1, hts _ hY.2.2⟩ ⟨fun a U gg mk q => ⟨q.1, q.2.1, ax_K.call q.2.2.1, q.2.2.2.1, q.2.2.2.2⟩, hrec, fun U hU hW => ⟨rfl, by rw [hU], ax_K.to hK hS hF hW hU, by rw [hU]; exact hPc, hDc.weaken (fun _ _ _ _ => trivial)⟩⟩ rfl rfl hl.1 hst (lv_room hroom) hd ⟨Nat.le_trans hkk.1 hR.2.2.1, Nat.le_trans hkk.2 hR.2.2.2⟩) hS (fun q _ h => hF q h) hF (fun r u t H1 locs ht hvm hp hB hz1 hk9 hS => ?_)
  obtain ⟨hP2, hD2⟩ := va_join (wr := wC g σ) (w1 := wM g u) hP hD [32, 33, 34, 35, 36, 37, 38, 39, 40, 41, 42, 43, 44, 45, 46, 47, 48] [0, 1, 2, 3, 4, 5, 6, 7, 8, 9, 10, 11, 12, 13, 14, 15, 16, 17, 18, 19, 20, 21, 22, 23, 24, 25, 26, 27, 28, 29, 30, 31] hCs hRs rfl (by decide) hk9 hF (by rw [← ht]; exact hB.1) hB.2
  have hP3 : va_P g.1 classes (wL g (σ, u)) H1 := hP2
  have hD3 : va_D A (wL g (σ, u)) := hD2
  exact k r u hp hC hkk H1 locs ls hP3 hD3 hS hl
/-- the script, as the law's frame has it -/
def ax_XX (x : ax_X) (A : Nat → Prop) (b L : Nat) (xs : Nat → Int32) : Prop := match x with
  | (_, _, _, _, s, _, _, _, _, _) => va_X b L xs s s.heap ∧ b < s.heap.size ∧ ¬ A b
theorem lw_sld {τ' : Type} {w : τ' → va_W} {σ' : τ'} {b L : Nat} {xs : Nat → Int32} (hX : ax_XX x A b L xs) {i : Int32} (hi : vp_in i L) (hd : decode μ.1 pc = .ok (.iaload, 1)) (hn : pc + 1 = n) (k : AW x μ g A w kk Q n lv (.int (xs i.toNatClampNeg) :: rest) σ') : AW x μ g A w kk Q pc lv (.int i :: .ref b :: rest) σ' := by
  obtain ⟨p, l, e, R, s, m, args, below, meth, c⟩ := x
  obtain ⟨cc, nL, own, ret, d⟩ := μ
  subst hn
  intro hC hkk H locs ls hP hD hS hl
  obtain ⟨hx, hb, hml, hown, hts, hlk, hrt, hA, hK, hR⟩ := id hC
  exact va_sld hx hb hX.1 hX.2.1 hX.2.2 hS hi hd (k hC hkk H locs ls hP hD hS hl)
theorem lw_slen {τ' : Type} {w : τ' → va_W} {σ' : τ'} {b L : Nat} {xs : Nat → Int32} (hX : ax_XX x A b L xs) (hd : decode μ.1 pc = .ok (.arraylength, 1)) (hn : pc + 1 = n) (k : AW x μ g A w kk Q n lv (.int (Int32.ofNat L) :: rest) σ') : AW x μ g A w kk Q pc lv (.ref b :: rest) σ' := by
  obtain ⟨p, l, e, R, s, m, args, below, meth, c⟩ := x
  obtain ⟨cc, nL, own, ret, d⟩ := μ
  subst hn
  intro hC hkk H locs ls hP hD hS hl
  obtain ⟨hx, hb, hml, hown, hts, hlk, hrt, hA, hK, hR⟩ := id hC
  exact va_slen hx hb hX.1 hX.2.1 hX.2.2 hS hd (k hC hkk H locs ls hP hD hS hl)
end LW
/-- a relation between the class's state and the reference's that every call keeps, answers alike -/
def LawOK (Rel : St → St → Prop) : Prop := (∀ (σ τ : St) (a1 : Int32), Rel σ τ → ∃ (N : Nat) (r : Int32) (σ2 τ2 : St), J_Con_feed N a1 σ = some (r, σ2) ∧ J_Mod_feed N a1 τ = some (r, τ2) ∧ Rel σ2 τ2) ∧
  (∀ (σ τ : St), Rel σ τ → ∃ (N : Nat) (r : Int32) (σ2 τ2 : St), J_Con_add N σ = some (r, σ2) ∧ J_Mod_add N τ = some (r, τ2) ∧ Rel σ2 τ2) ∧
  (∀ (σ τ : St), Rel σ τ → ∃ (N : Nat) (r : Int32) (σ2 τ2 : St), J_Con_place N σ = some (r, σ2) ∧ J_Mod_place N τ = some (r, τ2) ∧ Rel σ2 τ2) ∧
  (∀ (σ τ : St), Rel σ τ → ∃ (N : Nat) (r : Int32) (σ2 τ2 : St), J_Con_seal N σ = some (r, σ2) ∧ J_Mod_seal N τ = some (r, τ2) ∧ Rel σ2 τ2) ∧
  (∀ (σ τ : St) (a1 : Int32), Rel σ τ → ∃ (N : Nat) (r : Int32) (σ2 τ2 : St), J_Con_frame N a1 σ = some (r, σ2) ∧ J_Mod_frame N a1 τ = some (r, τ2) ∧ Rel σ2 τ2) ∧
  (∀ (σ τ : St), Rel σ τ → ∃ (N : Nat) (r : Int32) (σ2 τ2 : St), J_Con_restart N σ = some (r, σ2) ∧ J_Mod_restart N τ = some (r, τ2) ∧ Rel σ2 τ2) ∧
  (∀ (σ τ : St) (a1 a2 : Int32), Rel σ τ → ∃ (N : Nat) (r : Int32) (σ2 τ2 : St), J_Con_dot N a1 a2 σ = some (r, σ2) ∧ J_Mod_dot N a1 a2 τ = some (r, τ2) ∧ Rel σ2 τ2) ∧
  (∀ (σ τ : St) (a1 : Int32), Rel σ τ → ∃ (N : Nat) (r : Int32) (σ2 τ2 : St), J_Con_value N a1 σ = some (r, σ2) ∧ J_Mod_value N a1 τ = some (r, τ2) ∧ Rel σ2 τ2) ∧
  (∀ (σ τ : St) (a1 a2 : Int32), Rel σ τ → ∃ (N : Nat) (r : Int32) (σ2 τ2 : St), J_Con_name N a1 a2 σ = some (r, σ2) ∧ J_Mod_name N a1 a2 τ = some (r, τ2) ∧ Rel σ2 τ2) ∧
  (∀ (σ τ : St) (a1 : Int32), Rel σ τ → ∃ (N : Nat) (r : Int32) (σ2 τ2 : St), J_Con_cell N a1 σ = some (r, σ2) ∧ J_Mod_cell N a1 τ = some (r, τ2) ∧ Rel σ2 τ2) ∧
  (∀ (σ τ : St) (a1 : Int32), Rel σ τ → ∃ (N : Nat) (r : Int32) (σ2 τ2 : St), J_Con_nodes N a1 σ = some (r, σ2) ∧ J_Mod_nodes N a1 τ = some (r, τ2) ∧ Rel σ2 τ2) ∧
  (∀ (σ τ : St) (a1 : Int32), Rel σ τ → ∃ (N : Nat) (r : Int32) (σ2 τ2 : St), J_Con_count N a1 σ = some (r, σ2) ∧ J_Mod_count N a1 τ = some (r, τ2) ∧ Rel σ2 τ2)
