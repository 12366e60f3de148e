/-! PARSERS: their states, and the small steps -/
def sp_Pc (N : Nat) (K : Nat → Int32) (P V : Nat → Nat) (p c w : Nat) (m : sh_X) : Prop := (sh_Wc N K P V m) ∧ (m.I 39 4 = Int32.ofNat p) ∧ (p ≤ N) ∧ (N ≤ 4000) ∧ (m.I 28 10 = Int32.ofNat c) ∧ (m.I 39 3 = Int32.ofNat w) ∧ (m.T.length < 900000)
theorem sp_Pc.wc {N : Nat} {K : Nat → Int32} {P V : Nat → Nat} {p c w : Nat} {m : sh_X} (h : sp_Pc N K P V p c w m) : sh_Wc N K P V m := h.1
theorem sp_Pc.at_ {N : Nat} {K : Nat → Int32} {P V : Nat → Nat} {p c w : Nat} {m : sh_X} (h : sp_Pc N K P V p c w m) : m.I 39 4 = Int32.ofNat p := h.2.1
theorem sp_Pc.pN {N : Nat} {K : Nat → Int32} {P V : Nat → Nat} {p c w : Nat} {m : sh_X} (h : sp_Pc N K P V p c w m) : p ≤ N := h.2.2.1
theorem sp_Pc.N4 {N : Nat} {K : Nat → Int32} {P V : Nat → Nat} {p c w : Nat} {m : sh_X} (h : sp_Pc N K P V p c w m) : N ≤ 4000 := h.2.2.2.1
theorem sp_Pc.am {N : Nat} {K : Nat → Int32} {P V : Nat → Nat} {p c w : Nat} {m : sh_X} (h : sp_Pc N K P V p c w m) : m.I 28 10 = Int32.ofNat c := h.2.2.2.2.1
theorem sp_Pc.ws {N : Nat} {K : Nat → Int32} {P V : Nat → Nat} {p c w : Nat} {m : sh_X} (h : sp_Pc N K P V p c w m) : m.I 39 3 = Int32.ofNat w := h.2.2.2.2.2.1
theorem sp_Pc.tl {N : Nat} {K : Nat → Int32} {P V : Nat → Nat} {p c w : Nat} {m : sh_X} (h : sp_Pc N K P V p c w m) : m.T.length < 900000 := h.2.2.2.2.2.2
theorem sp_Pc.mk {N : Nat} {K : Nat → Int32} {P V : Nat → Nat} {p c w : Nat} {m : sh_X} (wc : sh_Wc N K P V m) (at_ : m.I 39 4 = Int32.ofNat p) (pN : p ≤ N) (N4 : N ≤ 4000) (am : m.I 28 10 = Int32.ofNat c) (ws : m.I 39 3 = Int32.ofNat w) (tl : m.T.length < 900000) : sp_Pc N K P V p c w m := ⟨wc, at_, pN, N4, am, ws, tl⟩
def sh_Pm (N : Nat) (K : Nat → Int32) (P V : Nat → Nat) (p g : Nat) (m : sh_X) : Prop := (sh_Wq N K P V m) ∧ (m.I 66 21 = Int32.ofNat p) ∧ (p ≤ N) ∧ (m.I 66 20 = Int32.ofNat g)
theorem sh_Pm.wq {N : Nat} {K : Nat → Int32} {P V : Nat → Nat} {p g : Nat} {m : sh_X} (h : sh_Pm N K P V p g m) : sh_Wq N K P V m := h.1
theorem sh_Pm.at_ {N : Nat} {K : Nat → Int32} {P V : Nat → Nat} {p g : Nat} {m : sh_X} (h : sh_Pm N K P V p g m) : m.I 66 21 = Int32.ofNat p := h.2.1
theorem sh_Pm.pN {N : Nat} {K : Nat → Int32} {P V : Nat → Nat} {p g : Nat} {m : sh_X} (h : sh_Pm N K P V p g m) : p ≤ N := h.2.2.1
theorem sh_Pm.am {N : Nat} {K : Nat → Int32} {P V : Nat → Nat} {p g : Nat} {m : sh_X} (h : sh_Pm N K P V p g m) : m.I 66 20 = Int32.ofNat g := h.2.2.2
theorem sh_Pm.mk {N : Nat} {K : Nat → Int32} {P V : Nat → Nat} {p g : Nat} {m : sh_X} (wq : sh_Wq N K P V m) (at_ : m.I 66 21 = Int32.ofNat p) (pN : p ≤ N) (am : m.I 66 20 = Int32.ofNat g) : sh_Pm N K P V p g m := ⟨wq, at_, pN, am⟩
/-- what the class's parser leaves as it was, from the step c and the wait w on -/
def sh_Cf (c w : Nat) (m m2 : sh_X) : Prop := (m2.T = m.T) ∧ (m2.J = m.J) ∧ (m2.s = m.s) ∧ (∀ x, x ≠ 28 → x ≠ 36 → x ≠ 37 → x ≠ 38 → x ≠ 39 → x ≠ 40 → m2.I x = m.I x) ∧ (∀ j, j ≠ 10 → m2.I 28 j = m.I 28 j) ∧ (∀ y, y < c → m2.I 36 y = m.I 36 y ∧ m2.I 37 y = m.I 37 y ∧ m2.I 38 y = m.I 38 y) ∧ (∀ y, y < w → m2.I 40 y = m.I 40 y)
theorem sh_Cf.T {c w : Nat} {m m2 : sh_X} (h : sh_Cf c w m m2) : m2.T = m.T := h.1
theorem sh_Cf.J {c w : Nat} {m m2 : sh_X} (h : sh_Cf c w m m2) : m2.J = m.J := h.2.1
theorem sh_Cf.s {c w : Nat} {m m2 : sh_X} (h : sh_Cf c w m m2) : m2.s = m.s := h.2.2.1
theorem sh_Cf.I {c w : Nat} {m m2 : sh_X} (h : sh_Cf c w m m2) : ∀ x, x ≠ 28 → x ≠ 36 → x ≠ 37 → x ≠ 38 → x ≠ 39 → x ≠ 40 → m2.I x = m.I x := h.2.2.2.1
theorem sh_Cf.I28 {c w : Nat} {m m2 : sh_X} (h : sh_Cf c w m m2) : ∀ j, j ≠ 10 → m2.I 28 j = m.I 28 j := h.2.2.2.2.1
theorem sh_Cf.cd {c w : Nat} {m m2 : sh_X} (h : sh_Cf c w m m2) : ∀ y, y < c → m2.I 36 y = m.I 36 y ∧ m2.I 37 y = m.I 37 y ∧ m2.I 38 y = m.I 38 y := h.2.2.2.2.2.1
theorem sh_Cf.wt {c w : Nat} {m m2 : sh_X} (h : sh_Cf c w m m2) : ∀ y, y < w → m2.I 40 y = m.I 40 y := h.2.2.2.2.2.2
theorem sh_Cf.mk {c w : Nat} {m m2 : sh_X} (T : m2.T = m.T) (J : m2.J = m.J) (s : m2.s = m.s) (I : ∀ x, x ≠ 28 → x ≠ 36 → x ≠ 37 → x ≠ 38 → x ≠ 39 → x ≠ 40 → m2.I x = m.I x) (I28 : ∀ j, j ≠ 10 → m2.I 28 j = m.I 28 j) (cd : ∀ y, y < c → m2.I 36 y = m.I 36 y ∧ m2.I 37 y = m.I 37 y ∧ m2.I 38 y = m.I 38 y) (wt : ∀ y, y < w → m2.I 40 y = m.I 40 y) : sh_Cf c w m m2 := ⟨T, J, s, I, I28, cd, wt⟩
theorem sh_Cf.refl (c w : Nat) (m : sh_X) : sh_Cf c w m m := sh_Cf.mk rfl rfl rfl (fun _ _ _ _ _ _ _ => rfl) (fun _ _ => rfl) (fun _ _ => ⟨rfl, rfl, rfl⟩) (fun _ _ => rfl)
theorem sh_Cf.trans {c w c2 w2 : Nat} {m m2 m3 : sh_X} (h : sh_Cf c w m m2) (g : sh_Cf c2 w2 m2 m3) (hc : c ≤ c2) (hw : w ≤ w2) : sh_Cf c w m m3 :=
  sh_Cf.mk (g.T.trans h.T) (g.J.trans h.J) (g.s.trans h.s) (fun x a b d e f k => (g.I x a b d e f k).trans (h.I x a b d e f k)) (fun j a => (g.I28 j a).trans (h.I28 j a)) (fun y hy => by have a := h.cd y hy; have b := g.cd y (by omega); exact ⟨b.1.trans a.1, b.2.1.trans a.2.1, b.2.2.trans a.2.2⟩) (fun y hy => (g.wt y (by omega)).trans (h.wt y hy))
theorem sh_Cf.less {c w c2 w2 : Nat} {m m2 : sh_X} (h : sh_Cf c2 w2 m m2) (hc : c ≤ c2) (hw : w ≤ w2) : sh_Cf c w m m2 := (sh_Cf.refl c w m).trans h hc hw
/-- what the model's parser leaves as it was, from the part g on, where it failed -/
def sh_Mx (g : Nat) (m m2 : sh_X) : Prop := (m2.T = m.T) ∧ (m2.J = m.J) ∧ (m2.s = m.s) ∧ (∀ x, x ≠ 66 → (x < 72 ∨ 78 < x) → m2.I x = m.I x) ∧ (∀ j, j ≠ 6 → j ≠ 7 → j ≠ 20 → j ≠ 21 → j ≠ 38 → j ≠ 39 → m2.I 66 j = m.I 66 j) ∧ (∀ y, y < g → ∀ x, 72 ≤ x → x ≤ 78 → m2.I x y = m.I x y)
theorem sh_Mx.T {g : Nat} {m m2 : sh_X} (h : sh_Mx g m m2) : m2.T = m.T := h.1
theorem sh_Mx.J {g : Nat} {m m2 : sh_X} (h : sh_Mx g m m2) : m2.J = m.J := h.2.1
theorem sh_Mx.s {g : Nat} {m m2 : sh_X} (h : sh_Mx g m m2) : m2.s = m.s := h.2.2.1
theorem sh_Mx.I {g : Nat} {m m2 : sh_X} (h : sh_Mx g m m2) : ∀ x, x ≠ 66 → (x < 72 ∨ 78 < x) → m2.I x = m.I x := h.2.2.2.1
theorem sh_Mx.I6 {g : Nat} {m m2 : sh_X} (h : sh_Mx g m m2) : ∀ j, j ≠ 6 → j ≠ 7 → j ≠ 20 → j ≠ 21 → j ≠ 38 → j ≠ 39 → m2.I 66 j = m.I 66 j := h.2.2.2.2.1
theorem sh_Mx.pt {g : Nat} {m m2 : sh_X} (h : sh_Mx g m m2) : ∀ y, y < g → ∀ x, 72 ≤ x → x ≤ 78 → m2.I x y = m.I x y := h.2.2.2.2.2
theorem sh_Mx.mk {g : Nat} {m m2 : sh_X} (T : m2.T = m.T) (J : m2.J = m.J) (s : m2.s = m.s) (I : ∀ x, x ≠ 66 → (x < 72 ∨ 78 < x) → m2.I x = m.I x) (I6 : ∀ j, j ≠ 6 → j ≠ 7 → j ≠ 20 → j ≠ 21 → j ≠ 38 → j ≠ 39 → m2.I 66 j = m.I 66 j) (pt : ∀ y, y < g → ∀ x, 72 ≤ x → x ≤ 78 → m2.I x y = m.I x y) : sh_Mx g m m2 := ⟨T, J, s, I, I6, pt⟩
theorem sh_Mx.refl (g : Nat) (m : sh_X) : sh_Mx g m m := sh_Mx.mk rfl rfl rfl (fun _ _ _ => rfl) (fun _ _ _ _ _ _ _ => rfl) (fun _ _ _ _ _ => rfl)
theorem sh_Mx.trans {g g2 : Nat} {m m2 m3 : sh_X} (h : sh_Mx g m m2) (k : sh_Mx g2 m2 m3) (hg : g ≤ g2) : sh_Mx g m m3 :=
  sh_Mx.mk (k.T.trans h.T) (k.J.trans h.J) (k.s.trans h.s) (fun x a b => (k.I x a b).trans (h.I x a b)) (fun j a b c d e f => (k.I6 j a b c d e f).trans (h.I6 j a b c d e f)) (fun y hy x a b => (k.pt y (by omega) x a b).trans (h.pt y hy x a b))
theorem sh_Mx.less {g g2 : Nat} {m m2 : sh_X} (h : sh_Mx g2 m m2) (hg : g ≤ g2) : sh_Mx g m m2 := (sh_Mx.refl g m).trans h hg
/-- what the model's parser leaves as it was, from the part g on -/
def sh_Mf (g : Nat) (m m2 : sh_X) : Prop := (m2.T = m.T) ∧ (m2.J = m.J) ∧ (m2.s = m.s) ∧ (m2.I 66 6 = m.I 66 6) ∧ (∀ x, x ≠ 66 → (x < 72 ∨ 78 < x) → m2.I x = m.I x) ∧ (∀ j, j ≠ 6 → j ≠ 7 → j ≠ 20 → j ≠ 21 → j ≠ 38 → j ≠ 39 → m2.I 66 j = m.I 66 j) ∧ (∀ y, y < g → ∀ x, 72 ≤ x → x ≤ 78 → m2.I x y = m.I x y)
theorem sh_Mf.T {g : Nat} {m m2 : sh_X} (h : sh_Mf g m m2) : m2.T = m.T := h.1
theorem sh_Mf.J {g : Nat} {m m2 : sh_X} (h : sh_Mf g m m2) : m2.J = m.J := h.2.1
theorem sh_Mf.s {g : Nat} {m m2 : sh_X} (h : sh_Mf g m m2) : m2.s = m.s := h.2.2.1
theorem sh_Mf.e6 {g : Nat} {m m2 : sh_X} (h : sh_Mf g m m2) : m2.I 66 6 = m.I 66 6 := h.2.2.2.1
theorem sh_Mf.I {g : Nat} {m m2 : sh_X} (h : sh_Mf g m m2) : ∀ x, x ≠ 66 → (x < 72 ∨ 78 < x) → m2.I x = m.I x := h.2.2.2.2.1
theorem sh_Mf.I6 {g : Nat} {m m2 : sh_X} (h : sh_Mf g m m2) : ∀ j, j ≠ 6 → j ≠ 7 → j ≠ 20 → j ≠ 21 → j ≠ 38 → j ≠ 39 → m2.I 66 j = m.I 66 j := h.2.2.2.2.2.1
theorem sh_Mf.pt {g : Nat} {m m2 : sh_X} (h : sh_Mf g m m2) : ∀ y, y < g → ∀ x, 72 ≤ x → x ≤ 78 → m2.I x y = m.I x y := h.2.2.2.2.2.2
theorem sh_Mf.mk {g : Nat} {m m2 : sh_X} (T : m2.T = m.T) (J : m2.J = m.J) (s : m2.s = m.s) (e6 : m2.I 66 6 = m.I 66 6) (I : ∀ x, x ≠ 66 → (x < 72 ∨ 78 < x) → m2.I x = m.I x) (I6 : ∀ j, j ≠ 6 → j ≠ 7 → j ≠ 20 → j ≠ 21 → j ≠ 38 → j ≠ 39 → m2.I 66 j = m.I 66 j) (pt : ∀ y, y < g → ∀ x, 72 ≤ x → x ≤ 78 → m2.I x y = m.I x y) : sh_Mf g m m2 := ⟨T, J, s, e6, I, I6, pt⟩
theorem sh_Mf.refl (g : Nat) (m : sh_X) : sh_Mf g m m := sh_Mf.mk rfl rfl rfl rfl (fun _ _ _ => rfl) (fun _ _ _ _ _ _ _ => rfl) (fun _ _ _ _ _ => rfl)
theorem sh_Mf.trans {g g2 : Nat} {m m2 m3 : sh_X} (h : sh_Mf g m m2) (k : sh_Mf g2 m2 m3) (hg : g ≤ g2) : sh_Mf g m m3 :=
  sh_Mf.mk (k.T.trans h.T) (k.J.trans h.J) (k.s.trans h.s) (k.e6.trans h.e6) (fun x a b => (k.I x a b).trans (h.I x a b)) (fun j a b c d e f => (k.I6 j a b c d e f).trans (h.I6 j a b c d e f)) (fun y hy x a b => (k.pt y (by omega) x a b).trans (h.pt y hy x a b))
theorem sh_Mf.less {g g2 : Nat} {m m2 : sh_X} (h : sh_Mf g2 m m2) (hg : g ≤ g2) : sh_Mf g m m2 := (sh_Mf.refl g m).trans h hg
theorem sh_Mf.x {g : Nat} {m m2 : sh_X} (h : sh_Mf g m m2) : sh_Mx g m m2 := sh_Mx.mk h.T h.J h.s h.I h.I6 h.pt
/-- both parsers failed at the word w -/
def sh_bdc (P : Nat → Nat) (w : Nat) (m mf : sh_X) : Prop := ∃ m1, sh_Cf 0 0 m m1 ∧ mf = sh_flt 2 (Int32.ofNat (P w)) m1
def sh_bdm (P : Nat → Nat) (w : Nat) (m mf : sh_X) : Prop := sh_Mx 0 m mf ∧ mf.I 66 6 = 2 ∧ mf.I 66 7 = Int32.ofNat (P w)
theorem sh_bdc.of {P : Nat → Nat} {w c u : Nat} {m m1 mf : sh_X} (f : sh_Cf c u m m1) (h : sh_bdc P w m1 mf) : sh_bdc P w m mf := by
  obtain ⟨m2, a, b⟩ := h
  exact ⟨m2, (f.less (Nat.zero_le c) (Nat.zero_le u)).trans a (Nat.le_refl _) (Nat.le_refl _), b⟩
theorem sh_bdm.of {P : Nat → Nat} {w g : Nat} {m m1 mf : sh_X} (f : sh_Mf g m m1) (h : sh_bdm P w m1 mf) : sh_bdm P w m mf := ⟨(f.less (Nat.zero_le g)).x.trans h.1 (Nat.le_refl _), h.2⟩
section
variable {N : Nat} {K : Nat → Int32} {P V : Nat → Nat}
theorem sh_46 {m : sh_X} {i : Nat} (h : sh_Wc N K P V m) (hN : N ≤ 4000) (hi : i ≤ N) : sf_46 (Int32.ofNat i) m = some (K i) := by
  unfold sf_46
  rw [if_neg (sh_nI0 (by omega)), h.am, if_pos ((sh_nIlt (by omega) (by omega)).mpr (by omega)), if_pos ((sh_okn (by omega)).mpr (by omega)), sh_nIc (by omega), (h.kd i hi).1]
theorem sh_45 {m : sh_X} {p c w : Nat} (h : sp_Pc N K P V p c w m) : sf_45 m = some (K p) := by
  unfold sf_45
  rw [h.at_, sh_46 h.wc h.N4 h.pN, sh_bc_some]
theorem sh_50 {m : sh_X} {k : Int32} {i : Nat} (h : sh_Wc N K P V m) (hN : N ≤ 4000) (hi : i ≤ N) (ht : m.T.length < 1000000) : sf_50 k (Int32.ofNat i) m = some (none, sh_flt k (Int32.ofNat (P i)) m) := by
  unfold sf_50
  rw [if_neg (sh_nI0 (by omega)), h.am, if_pos ((sh_nIlt (by omega) (by omega)).mpr (by omega)), if_pos ((sh_okn (by omega)).mpr (by omega)), sh_nIc (by omega), (h.kd i hi).2]
  unfold sf_50_31
  exact if_pos ht
theorem sh_49 {m : sh_X} {p c w : Nat} (h : sp_Pc N K P V p c w m) : sf_49 m = some (none, sh_flt 2 (Int32.ofNat (P p)) m) := by
  unfold sf_49
  rw [h.at_, sh_50 h.wc h.N4 h.pN (by have := h.tl; omega)]
  rfl
theorem sp_Pc.bad {m : sh_X} {p c w : Nat} (h : sp_Pc N K P V p c w m) : sh_bdc P p m (sh_flt 2 (Int32.ofNat (P p)) m) := ⟨m, sh_Cf.refl 0 0 m, rfl⟩
/-- one word on -/
theorem sh_adv {m : sh_X} {p c w : Nat} (h : sp_Pc N K P V p c w m) (hp : p < N) : sp_Pc N K P V (p + 1) c w (m.T, sh_u2 m.I 39 4 (m.I 39 4 + 1), m.J, m.s) ∧ ∀ a b, sh_Cf a b m (m.T, sh_u2 m.I 39 4 (m.I 39 4 + 1), m.J, m.s) := by
  refine ⟨sp_Pc.mk (h.wc.same ?_ ?_ ?_ rfl) ?_ (by omega) h.N4 ?_ ?_ h.tl, fun a b => sh_Cf.mk rfl rfl rfl ?_ ?_ ?_ ?_⟩
  · simp only [sh_X.I, sh_u2_cell (show (2 : Nat) ≠ 39 by omega)]
  · simp only [sh_X.I, sh_u2_cell (show (3 : Nat) ≠ 39 by omega)]
  · simp only [sh_X.I, sh_u2_cell (show (4 : Nat) ≠ 39 by omega)]
  · simp only [sh_X.I, sh_u2_same]
    rw [show m.2.1 39 4 = _ from h.at_, sh_nI1]
  · simp only [sh_X.I, sh_u2_cell (show (28 : Nat) ≠ 39 by omega)]
    exact h.am
  · simp only [sh_X.I, sh_u2_idx (show (3 : Nat) ≠ 4 by omega)]
    exact h.ws
  · intro x _ _ _ _ h39 _
    simp only [sh_X.I, sh_u2_cell h39]
  · intro j _
    simp only [sh_X.I, sh_u2_cell (show (28 : Nat) ≠ 39 by omega)]
  · intro y _
    simp only [sh_X.I, sh_u2_cell (show (36 : Nat) ≠ 39 by omega), sh_u2_cell (show (37 : Nat) ≠ 39 by omega), sh_u2_cell (show (38 : Nat) ≠ 39 by omega)]
    exact ⟨trivial, trivial, trivial⟩
  · intro y _
    simp only [sh_X.I, sh_u2_cell (show (40 : Nat) ≠ 39 by omega)]
/-- take -/
theorem sh_48t {m : sh_X} {p c w : Nat} {k : Int32} (h : sp_Pc N K P V p c w m) (hk : K p = k) (hp : p < N) : ∃ m2, sf_48 k m = some (some (), m2) ∧ sp_Pc N K P V (p + 1) c w m2 ∧ ∀ a b, sh_Cf a b m m2 := by
  refine ⟨_, ?_, sh_adv h hp⟩
  unfold sf_48 sf_48_12
  rw [sh_45 h, sh_bc_some, if_pos hk]
theorem sh_48f {m : sh_X} {p c w : Nat} {k : Int32} (h : sp_Pc N K P V p c w m) (hk : ¬ K p = k) : sf_48 k m = some (none, sh_flt 2 (Int32.ofNat (P p)) m) := by
  unfold sf_48
  rw [sh_45 h, sh_bc_some, if_neg hk, sh_49 h]
  rfl
/-- a step of the code is added -/
theorem sh_56 {m : sh_X} {p c w : Nat} {a x y : Int32} (h : sp_Pc N K P V p c w m) (hc : c < 6000) : ∃ m2, sf_56 a x y m = some (Int32.ofNat c, m2) ∧ sp_Pc N K P V p (c + 1) w m2 ∧ (∀ b, sh_Cf c b m m2) ∧ m2.I 36 c = a ∧ m2.I 37 c = x ∧ m2.I 38 c = y := by
  have hlt : m.I 28 10 < 6000 := by rw [h.am]; exact (sh_nIlt (b := 6000) (by omega) (by omega)).mpr hc
  have hok : sh_okb (m.I 28 10) 6000 = true := by rw [h.am]; exact (sh_okn (by omega)).mpr hc
  have hcl : Int32.toNatClampNeg (m.I 28 10) = c := by rw [h.am]; exact sh_nIc (by omega)
  refine ⟨⟨m.T, sh_u2 (sh_u2 (sh_u2 (sh_u2 m.I 36 c a) 37 c x) 38 c y) 28 10 (m.I 28 10 + 1), m.J, m.s⟩, ?_, ?_, ?_, ?_, ?_, ?_⟩
  · unfold sf_56
    rw [if_pos hlt, if_pos hok, if_pos hok, if_pos hok, hcl]
    show some (m.I 28 10 + 1 - 1, _) = _
    rw [h.am, Int32.add_sub_cancel]
  · refine sp_Pc.mk (h.wc.same ?_ ?_ ?_ rfl) ?_ h.pN h.N4 ?_ ?_ h.tl
    · simp [sh_X.I, sh_u2]
    · funext z; simp [sh_X.I, sh_u2]
    · funext z; simp [sh_X.I, sh_u2]
    · simp [sh_X.I, sh_u2]; exact h.at_
    · simp only [sh_X.I, sh_u2_same]
      rw [show m.2.1 28 10 = _ from h.am, sh_nI1]
    · simp [sh_X.I, sh_u2]; exact h.ws
  · intro b
    refine sh_Cf.mk rfl rfl rfl ?_ ?_ ?_ ?_
    · intro z z1 z2 z3 z4 z5 z6
      simp only [sh_X.I, sh_u2_cell z1, sh_u2_cell z2, sh_u2_cell z3, sh_u2_cell z4]
    · intro j hj
      simp [sh_X.I, sh_u2, hj]
    · intro z hz
      simp [sh_X.I, sh_u2, show z ≠ c by omega]
    · intro z _
      simp [sh_X.I, sh_u2]
  · simp [sh_X.I, sh_u2]
  · simp [sh_X.I, sh_u2]
  · simp [sh_X.I, sh_u2]
/-- setMore -/
theorem sh_63 {m : sh_X} {p c w k : Nat} {y : Int32} (h : sp_Pc N K P V p c w m) (hk : k < c) (hc : c ≤ 6000) : ∃ m2, sf_63 (Int32.ofNat k) y m = some ((), m2) ∧ sp_Pc N K P V p c w m2 ∧ (∀ b, sh_Cf k b m m2) ∧ m2.I 38 k = y ∧ m2.I 36 = m.I 36 ∧ m2.I 37 = m.I 37 ∧ ∀ z, z ≠ k → m2.I 38 z = m.I 38 z := by
  have h64 : sf_64 (Int32.ofNat k) m = some true := by
    unfold sf_64
    rw [if_neg (sh_nI0 (by omega)), h.am, if_pos ((sh_nIlt (by omega) (by omega)).mpr hk)]
  refine ⟨⟨m.T, sh_u2 m.I 38 k y, m.J, m.s⟩, ?_, ?_, ?_, ?_, ?_, ?_, ?_⟩
  · unfold sf_63
    rw [h64, sh_bc_some, if_pos rfl, if_pos ((sh_okn (by omega)).mpr (by omega)), sh_nIc (by omega)]
  · refine sp_Pc.mk (h.wc.same ?_ ?_ ?_ rfl) ?_ h.pN h.N4 ?_ ?_ h.tl
    · simp [sh_X.I, sh_u2]
    · funext z; simp [sh_X.I, sh_u2]
    · funext z; simp [sh_X.I, sh_u2]
    · simp [sh_X.I, sh_u2]; exact h.at_
    · simp [sh_X.I, sh_u2]; exact h.am
    · simp [sh_X.I, sh_u2]; exact h.ws
  · intro b
    refine sh_Cf.mk rfl rfl rfl ?_ ?_ ?_ ?_
    · intro z z1 z2 z3 z4 z5 z6
      simp only [sh_X.I, sh_u2_cell z4]
    · intro j hj
      simp [sh_X.I, sh_u2]
    · intro z hz
      simp [sh_X.I, sh_u2, show z ≠ k by omega]
    · intro z _
      simp [sh_X.I, sh_u2]
  · simp [sh_X.I, sh_u2]
  · funext z; simp [sh_X.I, sh_u2]
  · funext z; simp [sh_X.I, sh_u2]
  · intro z hz; simp [sh_X.I, sh_u2, hz]
end
