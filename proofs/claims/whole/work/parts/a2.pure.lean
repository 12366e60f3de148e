/-! PARSERS: the heads of FNs -/
def sh_Cg (m m2 : sh_X) : Prop := (m2.T = m.T) ∧ (m2.J = m.J) ∧ (m2.s = m.s) ∧ (∀ x, (x < 28 ∨ 40 < x) → m2.I x = m.I x)
theorem sh_Cg.T {m m2 : sh_X} (h : sh_Cg m m2) : m2.T = m.T := h.1
theorem sh_Cg.J {m m2 : sh_X} (h : sh_Cg m m2) : m2.J = m.J := h.2.1
theorem sh_Cg.s {m m2 : sh_X} (h : sh_Cg m m2) : m2.s = m.s := h.2.2.1
theorem sh_Cg.I {m m2 : sh_X} (h : sh_Cg m m2) : ∀ x, (x < 28 ∨ 40 < x) → m2.I x = m.I x := h.2.2.2
theorem sh_Cg.mk {m m2 : sh_X} (T : m2.T = m.T) (J : m2.J = m.J) (s : m2.s = m.s) (I : ∀ x, (x < 28 ∨ 40 < x) → m2.I x = m.I x) : sh_Cg m m2 := ⟨T, J, s, I⟩
theorem sh_Cg.refl (m : sh_X) : sh_Cg m m := sh_Cg.mk rfl rfl rfl (fun _ _ => rfl)
theorem sh_Cg.trans {m m2 m3 : sh_X} (h : sh_Cg m m2) (g : sh_Cg m2 m3) : sh_Cg m m3 := sh_Cg.mk (g.T.trans h.T) (g.J.trans h.J) (g.s.trans h.s) (fun x a => (g.I x a).trans (h.I x a))
theorem sh_Cf.cg {c w : Nat} {m m2 : sh_X} (h : sh_Cf c w m m2) : sh_Cg m m2 := sh_Cg.mk h.T h.J h.s (fun x a => h.I x (by omega) (by omega) (by omega) (by omega) (by omega) (by omega))
def sh_Mh (m m2 : sh_X) : Prop := (m2.T = m.T) ∧ (m2.J = m.J) ∧ (m2.s = m.s) ∧ (∀ x, x ≠ 66 → (x < 72 ∨ 91 < x) → m2.I x = m.I x) ∧ (∀ j, j ≠ 6 → j ≠ 7 → j ≠ 20 → j ≠ 21 → j ≠ 31 → j ≠ 36 → j ≠ 37 → j ≠ 38 → j ≠ 39 → m2.I 66 j = m.I 66 j)
theorem sh_Mh.T {m m2 : sh_X} (h : sh_Mh m m2) : m2.T = m.T := h.1
theorem sh_Mh.J {m m2 : sh_X} (h : sh_Mh m m2) : m2.J = m.J := h.2.1
theorem sh_Mh.s {m m2 : sh_X} (h : sh_Mh m m2) : m2.s = m.s := h.2.2.1
theorem sh_Mh.I {m m2 : sh_X} (h : sh_Mh m m2) : ∀ x, x ≠ 66 → (x < 72 ∨ 91 < x) → m2.I x = m.I x := h.2.2.2.1
theorem sh_Mh.I6 {m m2 : sh_X} (h : sh_Mh m m2) : ∀ j, j ≠ 6 → j ≠ 7 → j ≠ 20 → j ≠ 21 → j ≠ 31 → j ≠ 36 → j ≠ 37 → j ≠ 38 → j ≠ 39 → m2.I 66 j = m.I 66 j := h.2.2.2.2
theorem sh_Mh.mk {m m2 : sh_X} (T : m2.T = m.T) (J : m2.J = m.J) (s : m2.s = m.s) (I : ∀ x, x ≠ 66 → (x < 72 ∨ 91 < x) → m2.I x = m.I x) (I6 : ∀ j, j ≠ 6 → j ≠ 7 → j ≠ 20 → j ≠ 21 → j ≠ 31 → j ≠ 36 → j ≠ 37 → j ≠ 38 → j ≠ 39 → m2.I 66 j = m.I 66 j) : sh_Mh m m2 := ⟨T, J, s, I, I6⟩
theorem sh_Mh.refl (m : sh_X) : sh_Mh m m := sh_Mh.mk rfl rfl rfl (fun _ _ _ => rfl) (fun _ _ _ _ _ _ _ _ _ _ => rfl)
theorem sh_Mh.trans {m m2 m3 : sh_X} (h : sh_Mh m m2) (g : sh_Mh m2 m3) : sh_Mh m m3 := sh_Mh.mk (g.T.trans h.T) (g.J.trans h.J) (g.s.trans h.s) (fun x a b => (g.I x a b).trans (h.I x a b)) (fun j a b c d e f k l n => (g.I6 j a b c d e f k l n).trans (h.I6 j a b c d e f k l n))
def sh_Mg (m m2 : sh_X) : Prop := (m2.T = m.T) ∧ (m2.J = m.J) ∧ (m2.s = m.s) ∧ (m2.I 66 6 = m.I 66 6) ∧ (∀ x, x ≠ 66 → (x < 72 ∨ 91 < x) → m2.I x = m.I x) ∧ (∀ j, j ≠ 6 → j ≠ 7 → j ≠ 20 → j ≠ 21 → j ≠ 31 → j ≠ 36 → j ≠ 37 → j ≠ 38 → j ≠ 39 → m2.I 66 j = m.I 66 j)
theorem sh_Mg.T {m m2 : sh_X} (h : sh_Mg m m2) : m2.T = m.T := h.1
theorem sh_Mg.J {m m2 : sh_X} (h : sh_Mg m m2) : m2.J = m.J := h.2.1
theorem sh_Mg.s {m m2 : sh_X} (h : sh_Mg m m2) : m2.s = m.s := h.2.2.1
theorem sh_Mg.e6 {m m2 : sh_X} (h : sh_Mg m m2) : m2.I 66 6 = m.I 66 6 := h.2.2.2.1
theorem sh_Mg.I {m m2 : sh_X} (h : sh_Mg m m2) : ∀ x, x ≠ 66 → (x < 72 ∨ 91 < x) → m2.I x = m.I x := h.2.2.2.2.1
theorem sh_Mg.I6 {m m2 : sh_X} (h : sh_Mg m m2) : ∀ j, j ≠ 6 → j ≠ 7 → j ≠ 20 → j ≠ 21 → j ≠ 31 → j ≠ 36 → j ≠ 37 → j ≠ 38 → j ≠ 39 → m2.I 66 j = m.I 66 j := h.2.2.2.2.2
theorem sh_Mg.mk {m m2 : sh_X} (T : m2.T = m.T) (J : m2.J = m.J) (s : m2.s = m.s) (e6 : m2.I 66 6 = m.I 66 6) (I : ∀ x, x ≠ 66 → (x < 72 ∨ 91 < x) → m2.I x = m.I x) (I6 : ∀ j, j ≠ 6 → j ≠ 7 → j ≠ 20 → j ≠ 21 → j ≠ 31 → j ≠ 36 → j ≠ 37 → j ≠ 38 → j ≠ 39 → m2.I 66 j = m.I 66 j) : sh_Mg m m2 := ⟨T, J, s, e6, I, I6⟩
theorem sh_Mg.refl (m : sh_X) : sh_Mg m m := sh_Mg.mk rfl rfl rfl rfl (fun _ _ _ => rfl) (fun _ _ _ _ _ _ _ _ _ _ => rfl)
theorem sh_Mg.trans {m m2 m3 : sh_X} (h : sh_Mg m m2) (g : sh_Mg m2 m3) : sh_Mg m m3 := sh_Mg.mk (g.T.trans h.T) (g.J.trans h.J) (g.s.trans h.s) (g.e6.trans h.e6) (fun x a b => (g.I x a b).trans (h.I x a b)) (fun j a b c d e f k l n => (g.I6 j a b c d e f k l n).trans (h.I6 j a b c d e f k l n))
theorem sh_Mf.mg {g : Nat} {m m2 : sh_X} (h : sh_Mf g m m2) : sh_Mg m m2 := sh_Mg.mk h.T h.J h.s h.e6 (fun x a b => h.I x a (by omega)) (fun j a b c d e f k l n => h.I6 j a b c d l n)
theorem sh_Mx.mh {g : Nat} {m m2 : sh_X} (h : sh_Mx g m m2) : sh_Mh m m2 := sh_Mh.mk h.T h.J h.s (fun x a b => h.I x a (by omega)) (fun j a b c d e f k l n => h.I6 j a b c d l n)
theorem sh_Mg.h {m m2 : sh_X} (h : sh_Mg m m2) : sh_Mh m m2 := sh_Mh.mk h.T h.J h.s h.I h.I6
def sh_bDc (P : Nat → Nat) (w : Nat) (m mf : sh_X) : Prop := ∃ m1, sh_Cg m m1 ∧ mf = sh_flt 2 (Int32.ofNat (P w)) m1
def sh_bDm (P : Nat → Nat) (w : Nat) (m mf : sh_X) : Prop := sh_Mh m mf ∧ mf.I 66 6 = 2 ∧ mf.I 66 7 = Int32.ofNat (P w)
theorem sh_bdc.cg {P : Nat → Nat} {w : Nat} {m m0 mf : sh_X} (h : sh_bdc P w m mf) (f : sh_Cg m0 m) : sh_bDc P w m0 mf := by
  obtain ⟨m1, a, b⟩ := h
  exact ⟨m1, f.trans a.cg, b⟩
theorem sh_bdm.mg {P : Nat → Nat} {w : Nat} {m m0 mf : sh_X} (h : sh_bdm P w m mf) (f : sh_Mg m0 m) : sh_bDm P w m0 mf := ⟨f.h.trans h.1.mh, h.2⟩
theorem sh_bDc.of {P : Nat → Nat} {w : Nat} {m m0 mf : sh_X} (h : sh_bDc P w m mf) (f : sh_Cg m0 m) : sh_bDc P w m0 mf := by
  obtain ⟨m1, a, b⟩ := h
  exact ⟨m1, f.trans a, b⟩
theorem sh_bDm.of {P : Nat → Nat} {w : Nat} {m m0 mf : sh_X} (h : sh_bDm P w m mf) (f : sh_Mg m0 m) : sh_bDm P w m0 mf := ⟨f.h.trans h.1, h.2⟩
section
variable {N : Nat} {K : Nat → Int32} {P V : Nat → Nat}
/-- entries of the FNs are written: the parsers' states stay -/
theorem sh_cwr {m : sh_X} {p c w x i : Nat} {v : Int32} (h : sp_Pc N K P V p c w m) (hx : (29 ≤ x ∧ x ≤ 35) ∨ (x = 28 ∧ i ≠ 10)) : sp_Pc N K P V p c w (m.T, sh_u2 m.I x i v, m.J, m.s) ∧ sh_Cg m (m.T, sh_u2 m.I x i v, m.J, m.s) := by
  refine ⟨sp_Pc.mk (h.wc.same ?_ ?_ ?_ rfl) ?_ h.pN h.N4 ?_ ?_ h.tl, sh_Cg.mk rfl rfl rfl ?_⟩
  · simp only [sh_X.I, sh_u2_cell (show (2 : Nat) ≠ x by omega)]
  · simp only [sh_X.I, sh_u2_cell (show (3 : Nat) ≠ x by omega)]
  · simp only [sh_X.I, sh_u2_cell (show (4 : Nat) ≠ x by omega)]
  · simp only [sh_X.I, sh_u2_cell (show (39 : Nat) ≠ x by omega)]
    exact h.at_
  · simp only [sh_X.I]
    by_cases hx8 : x = 28
    · subst hx8
      rw [sh_u2_idx (by omega)]
      exact h.am
    · rw [sh_u2_cell (show (28 : Nat) ≠ x by omega)]
      exact h.am
  · simp only [sh_X.I, sh_u2_cell (show (39 : Nat) ≠ x by omega)]
    exact h.ws
  · intro z hz
    simp only [sh_X.I, sh_u2_cell (show z ≠ x by omega)]
theorem sh_mwr {m : sh_X} {p g x i : Nat} {v : Int32} (h : sh_Pm N K P V p g m) (hx : (79 ≤ x ∧ x ≤ 91) ∨ (x = 66 ∧ (i = 31 ∨ i = 36 ∨ i = 37))) : sh_Pm N K P V p g (m.T, sh_u2 m.I x i v, m.J, m.s) ∧ sh_Mg m (m.T, sh_u2 m.I x i v, m.J, m.s) := by
  refine ⟨sh_Pm.mk (h.wq.same ?_ ?_ ?_ ?_) ?_ h.pN ?_, sh_Mg.mk rfl rfl rfl (by
    simp only [sh_X.I]
    by_cases h66 : x = 66
    · subst h66; exact sh_u2_idx (by omega)
    · rw [sh_u2_cell (Ne.symm h66)]) ?_ ?_⟩
  · simp only [sh_X.I, sh_u2_cell (show (67 : Nat) ≠ x by omega)]
  · simp only [sh_X.I, sh_u2_cell (show (68 : Nat) ≠ x by omega)]
  · simp only [sh_X.I, sh_u2_cell (show (69 : Nat) ≠ x by omega)]
  · simp only [sh_X.I, sh_u2_cell (show (70 : Nat) ≠ x by omega)]
  · simp only [sh_X.I]
    by_cases hx8 : x = 66
    · subst hx8
      rw [sh_u2_idx (by omega)]
      exact h.at_
    · rw [sh_u2_cell (show (66 : Nat) ≠ x by omega)]
      exact h.at_
  · simp only [sh_X.I]
    by_cases hx8 : x = 66
    · subst hx8
      rw [sh_u2_idx (by omega)]
      exact h.am
    · rw [sh_u2_cell (show (66 : Nat) ≠ x by omega)]
      exact h.am
  · intro z h1 h2
    simp only [sh_X.I, sh_u2_cell (show z ≠ x by omega)]
  · intro j _ _ _ _ h31 h36 h37 _ _
    simp only [sh_X.I]
    by_cases hx8 : x = 66
    · subst hx8
      rw [sh_u2_idx (by omega)]
    · rw [sh_u2_cell (show (66 : Nat) ≠ x by omega)]
/-- a type's words: where it stands, where its number of elements stands -/
def sh_Ty (K : Nat → Int32) (ty row : Int32) (t : Nat) : Prop := K t = 3 ∧ ty = Int32.ofNat t ∧ ((¬ K (t + 1) = 91 ∧ row = -1) ∨ (K (t + 1) = 91 ∧ K (t + 2) = 2 ∧ row = Int32.ofNat (t + 2)))
/-- n parameters of the FN f: their names at t -/
def sh_Pr (K : Nat → Int32) (A C : Nat → Nat → Int32) (f n : Nat) (t : Nat → Nat) : Prop := ∀ k, k < n → t k + 3 ≤ t (k + 1) ∧ K (t k) = 1 ∧ A 81 (8 * f + k) = Int32.ofNat (t k) ∧ C 34 (8 * f + k) = Int32.ofNat (t k) ∧ sh_Ty K (A 82 (8 * f + k)) (A 83 (8 * f + k)) (t k + 1)
theorem sh_Pr.up {A C : Nat → Nat → Int32} {f n : Nat} {t : Nat → Nat} (H : sh_Pr K A C f n t) : ∀ k, k ≤ n → t 0 + 3 * k ≤ t k := by
  intro k
  induction k with
  | zero => intro _; omega
  | succ k ih => intro hk; have := (H k (by omega)).1; have := ih (by omega); omega
theorem sh_Pr.mono {A C A' C' : Nat → Nat → Int32} {f n : Nat} {t : Nat → Nat} (H : sh_Pr K A C f n t) (hA : ∀ k, k < n → A' 81 (8 * f + k) = A 81 (8 * f + k) ∧ A' 82 (8 * f + k) = A 82 (8 * f + k) ∧ A' 83 (8 * f + k) = A 83 (8 * f + k)) (hC : ∀ k, k < n → C' 34 (8 * f + k) = C 34 (8 * f + k)) : sh_Pr K A' C' f n t := by
  intro k hk
  obtain ⟨h1, h2, h3, h4, h5⟩ := H k hk
  obtain ⟨a1, a2, a3⟩ := hA k hk
  exact ⟨h1, h2, by rw [a1]; exact h3, by rw [hC k hk]; exact h4, by rw [a2, a3]; exact h5⟩
/-- the state in the midst of the parameters -/
def sh_Pi (N : Nat) (K : Nat → Int32) (P V : Nat → Nat) (f n : Nat) (t : Nat → Nat) (mc0 mm0 mc mm : sh_X) (p c g : Nat) : Prop := (sp_Pc N K P V p c 0 mc) ∧ (sh_Pm N K P V p g mm) ∧ (sh_Cg mc0 mc) ∧ (sh_Mg mm0 mm) ∧ (sh_Pr K mm.I mc.I f n t) ∧ (t n = p) ∧ (n ≤ 8) ∧ (mm.I 66 31 = Int32.ofNat f) ∧ (mm.I 66 36 = mm0.I 66 36) ∧ (∀ x y, (x < 81 ∨ 83 < x) → x ≠ 66 → mm.I x y = mm0.I x y) ∧ (∀ x y, 81 ≤ x → x ≤ 83 → y < 8 * f → mm.I x y = mm0.I x y) ∧ (∀ x y, x ≠ 34 → x ≠ 39 → ¬ (x = 28 ∧ y = 10) → mc.I x y = mc0.I x y) ∧ (∀ y, y < 8 * f → mc.I 34 y = mc0.I 34 y)
theorem sh_Pi.pc {N : Nat} {K : Nat → Int32} {P V : Nat → Nat} {f n : Nat} {t : Nat → Nat} {mc0 mm0 mc mm : sh_X} {p c g : Nat} (h : sh_Pi N K P V f n t mc0 mm0 mc mm p c g) : sp_Pc N K P V p c 0 mc := h.1
theorem sh_Pi.pm {N : Nat} {K : Nat → Int32} {P V : Nat → Nat} {f n : Nat} {t : Nat → Nat} {mc0 mm0 mc mm : sh_X} {p c g : Nat} (h : sh_Pi N K P V f n t mc0 mm0 mc mm p c g) : sh_Pm N K P V p g mm := h.2.1
theorem sh_Pi.cg {N : Nat} {K : Nat → Int32} {P V : Nat → Nat} {f n : Nat} {t : Nat → Nat} {mc0 mm0 mc mm : sh_X} {p c g : Nat} (h : sh_Pi N K P V f n t mc0 mm0 mc mm p c g) : sh_Cg mc0 mc := h.2.2.1
theorem sh_Pi.mg {N : Nat} {K : Nat → Int32} {P V : Nat → Nat} {f n : Nat} {t : Nat → Nat} {mc0 mm0 mc mm : sh_X} {p c g : Nat} (h : sh_Pi N K P V f n t mc0 mm0 mc mm p c g) : sh_Mg mm0 mm := h.2.2.2.1
theorem sh_Pi.pr {N : Nat} {K : Nat → Int32} {P V : Nat → Nat} {f n : Nat} {t : Nat → Nat} {mc0 mm0 mc mm : sh_X} {p c g : Nat} (h : sh_Pi N K P V f n t mc0 mm0 mc mm p c g) : sh_Pr K mm.I mc.I f n t := h.2.2.2.2.1
theorem sh_Pi.tn {N : Nat} {K : Nat → Int32} {P V : Nat → Nat} {f n : Nat} {t : Nat → Nat} {mc0 mm0 mc mm : sh_X} {p c g : Nat} (h : sh_Pi N K P V f n t mc0 mm0 mc mm p c g) : t n = p := h.2.2.2.2.2.1
theorem sh_Pi.n8 {N : Nat} {K : Nat → Int32} {P V : Nat → Nat} {f n : Nat} {t : Nat → Nat} {mc0 mm0 mc mm : sh_X} {p c g : Nat} (h : sh_Pi N K P V f n t mc0 mm0 mc mm p c g) : n ≤ 8 := h.2.2.2.2.2.2.1
theorem sh_Pi.f31 {N : Nat} {K : Nat → Int32} {P V : Nat → Nat} {f n : Nat} {t : Nat → Nat} {mc0 mm0 mc mm : sh_X} {p c g : Nat} (h : sh_Pi N K P V f n t mc0 mm0 mc mm p c g) : mm.I 66 31 = Int32.ofNat f := h.2.2.2.2.2.2.2.1
theorem sh_Pi.f36 {N : Nat} {K : Nat → Int32} {P V : Nat → Nat} {f n : Nat} {t : Nat → Nat} {mc0 mm0 mc mm : sh_X} {p c g : Nat} (h : sh_Pi N K P V f n t mc0 mm0 mc mm p c g) : mm.I 66 36 = mm0.I 66 36 := h.2.2.2.2.2.2.2.2.1
theorem sh_Pi.mo {N : Nat} {K : Nat → Int32} {P V : Nat → Nat} {f n : Nat} {t : Nat → Nat} {mc0 mm0 mc mm : sh_X} {p c g : Nat} (h : sh_Pi N K P V f n t mc0 mm0 mc mm p c g) : ∀ x y, (x < 81 ∨ 83 < x) → x ≠ 66 → mm.I x y = mm0.I x y := h.2.2.2.2.2.2.2.2.2.1
theorem sh_Pi.ml {N : Nat} {K : Nat → Int32} {P V : Nat → Nat} {f n : Nat} {t : Nat → Nat} {mc0 mm0 mc mm : sh_X} {p c g : Nat} (h : sh_Pi N K P V f n t mc0 mm0 mc mm p c g) : ∀ x y, 81 ≤ x → x ≤ 83 → y < 8 * f → mm.I x y = mm0.I x y := h.2.2.2.2.2.2.2.2.2.2.1
theorem sh_Pi.co {N : Nat} {K : Nat → Int32} {P V : Nat → Nat} {f n : Nat} {t : Nat → Nat} {mc0 mm0 mc mm : sh_X} {p c g : Nat} (h : sh_Pi N K P V f n t mc0 mm0 mc mm p c g) : ∀ x y, x ≠ 34 → x ≠ 39 → ¬ (x = 28 ∧ y = 10) → mc.I x y = mc0.I x y := h.2.2.2.2.2.2.2.2.2.2.2.1
theorem sh_Pi.cl {N : Nat} {K : Nat → Int32} {P V : Nat → Nat} {f n : Nat} {t : Nat → Nat} {mc0 mm0 mc mm : sh_X} {p c g : Nat} (h : sh_Pi N K P V f n t mc0 mm0 mc mm p c g) : ∀ y, y < 8 * f → mc.I 34 y = mc0.I 34 y := h.2.2.2.2.2.2.2.2.2.2.2.2
theorem sh_Pi.mk {N : Nat} {K : Nat → Int32} {P V : Nat → Nat} {f n : Nat} {t : Nat → Nat} {mc0 mm0 mc mm : sh_X} {p c g : Nat} (pc : sp_Pc N K P V p c 0 mc) (pm : sh_Pm N K P V p g mm) (cg : sh_Cg mc0 mc) (mg : sh_Mg mm0 mm) (pr : sh_Pr K mm.I mc.I f n t) (tn : t n = p) (n8 : n ≤ 8) (f31 : mm.I 66 31 = Int32.ofNat f) (f36 : mm.I 66 36 = mm0.I 66 36) (mo : ∀ x y, (x < 81 ∨ 83 < x) → x ≠ 66 → mm.I x y = mm0.I x y) (ml : ∀ x y, 81 ≤ x → x ≤ 83 → y < 8 * f → mm.I x y = mm0.I x y) (co : ∀ x y, x ≠ 34 → x ≠ 39 → ¬ (x = 28 ∧ y = 10) → mc.I x y = mc0.I x y) (cl : ∀ y, y < 8 * f → mc.I 34 y = mc0.I 34 y) : sh_Pi N K P V f n t mc0 mm0 mc mm p c g := ⟨pc, pm, cg, mg, pr, tn, n8, f31, f36, mo, ml, co, cl⟩
theorem sh_51E {x1 : Int32} {n k : Nat} {m : sh_X} : sf_51_20 x1 (Int32.ofNat n) false (Int32.ofNat k) m = sf_51_110 x1 (Int32.ofNat n) m := by
  unfold sf_51_20
  refine sh_wup ?_
  show sf_51_20s x1 (Int32.ofNat n) false (Int32.ofNat k) m = _
  unfold sf_51_20s
  split
  · rfl
  · rw [if_neg (by simp)]
theorem sh_257E {n : Nat} {m : sh_X} : sf_257_59 (Int32.ofNat n) false m = sf_257_194 (Int32.ofNat n) m := by
  unfold sf_257_59
  refine sh_wup ?_
  show sf_257_59s (Int32.ofNat n) false m = _
  unfold sf_257_59s
  rw [if_neg (by simp)]
theorem sh_Cf.ox {m m2 : sh_X} (h : ∀ a b, sh_Cf a b m m2) : ∀ x y, x ≠ 39 → ¬ (x = 28 ∧ y = 10) → m2.I x y = m.I x y := by
  intro x y hx hn
  by_cases h28 : x = 28
  · subst h28
    exact (h 0 0).I28 y (by omega)
  · by_cases h36 : x = 36
    · subst h36; exact ((h (y + 1) 0).cd y (by omega)).1
    · by_cases h37 : x = 37
      · subst h37; exact ((h (y + 1) 0).cd y (by omega)).2.1
      · by_cases h38 : x = 38
        · subst h38; exact ((h (y + 1) 0).cd y (by omega)).2.2
        · by_cases h40 : x = 40
          · subst h40; exact (h 0 (y + 1)).wt y (by omega)
          · rw [(h 0 0).I x h28 h36 h37 h38 hx h40]
theorem sh_Mf.ox {m m2 : sh_X} (h : ∀ a, sh_Mf a m m2) : ∀ x y, x ≠ 66 → m2.I x y = m.I x y := by
  intro x y hx
  by_cases h72 : 72 ≤ x ∧ x ≤ 78
  · exact (h (y + 1)).pt y (by omega) x h72.1 h72.2
  · rw [(h 0).I x hx (by omega)]
theorem sh_8n {f n : Nat} : (8 : Int32) * Int32.ofNat f + Int32.ofNat n = Int32.ofNat (8 * f + n) := by
  rw [show (8 : Int32) = Int32.ofNat 8 from rfl, sh_nImul, sh_nIadd]
theorem sh_n8 {f n : Nat} : Int32.ofNat f * (8 : Int32) + Int32.ofNat n = Int32.ofNat (8 * f + n) := by
  rw [show (8 : Int32) = Int32.ofNat 8 from rfl, sh_nImul, sh_nIadd, Nat.mul_comm]
/-- the parameters -/
theorem sh_pparl {f : Nat} {mc0 mm0 : sh_X} (hT : sh_Txt N K P V) (hf : f < 256) :
    ∀ (z0 p c g n : Nat) (t : Nat → Nat) (mc mm : sh_X), 8 ≤ n + z0 → sh_Pi N K P V f n t mc0 mm0 mc mm p c g →
    (∃ z mcf mmf, z ≤ N ∧ sf_51_20 (Int32.ofNat f) (Int32.ofNat n) true (Int32.ofNat n) mc = some (none, mcf) ∧ sf_257_59 (Int32.ofNat n) true mm = some (false, mmf) ∧ sh_bDc P z mc0 mcf ∧ sh_bDm P z mm0 mmf) ∨
    (∃ n2 t2 mc2 mm2 p2, 1 ≤ n2 ∧ sf_51_20 (Int32.ofNat f) (Int32.ofNat n) true (Int32.ofNat n) mc = sf_51_110 (Int32.ofNat f) (Int32.ofNat n2) mc2 ∧ sf_257_59 (Int32.ofNat n) true mm = sf_257_194 (Int32.ofNat n2) mm2 ∧ sp_Pc N K P V p2 c 0 mc2 ∧ sh_Pm N K P V p2 g mm2 ∧ sh_Cg mc0 mc2 ∧ sh_Mg mm0 mm2 ∧ sh_Pr K mm2.I mc2.I f n2 t2 ∧ t2 n2 = p2 + 1 ∧ t2 0 = t 0 ∧ n2 ≤ 8 ∧ mm2.I 66 31 = Int32.ofNat f ∧ mm2.I 66 36 = mm0.I 66 36 ∧
      (∀ x y, (x < 81 ∨ 83 < x) → x ≠ 66 → mm2.I x y = mm0.I x y) ∧ (∀ x y, 81 ≤ x → x ≤ 83 → y < 8 * f → mm2.I x y = mm0.I x y) ∧ (∀ x y, x ≠ 34 → x ≠ 39 → ¬ (x = 28 ∧ y = 10) → mc2.I x y = mc0.I x y) ∧ (∀ y, y < 8 * f → mc2.I 34 y = mc0.I 34 y)) := by
  intro z0
  induction z0 with
  | zero =>
    intro p c g n t mc mm hz hI
    have n4 := hI.pc.N4
    have n8 : n = 8 := by have := hI.n8; omega
    obtain ⟨o1, o2, o3⟩ := sh_mok hI.pm
    left
    refine ⟨p, _, _, hI.pc.pN, ?_, ?_, hI.pc.bad.cg hI.cg, hI.pm.bad.mg hI.mg⟩
    · unfold sf_51_20
      refine sh_wend ?_
      show sf_51_20s (Int32.ofNat f) (Int32.ofNat n) true (Int32.ofNat n) mc = _
      unfold sf_51_20s
      rw [n8, if_neg (by decide), if_pos rfl, if_pos (by decide), sh_49 hI.pc]
      rfl
    · unfold sf_257_59
      refine sh_wend ?_
      show sf_257_59s (Int32.ofNat n) true mm = _
      unfold sf_257_59s
      rw [n8, if_pos rfl, if_pos (by decide), if_pos o1, o2, sh_252]
      rfl
  | succ z0 ih =>
    intro p c g n t mc mm hz hI
    have n4 := hI.pc.N4
    have n8 := hI.n8
    have pN := hI.pc.pN
    have tn := hI.tn
    obtain ⟨o1, o2, o3⟩ := sh_mok hI.pm
    by_cases h8 : n = 8
    · exact ih p c g n t mc mm (by omega) hI
    have hn8 : ¬ (Int32.ofNat n : Int32) = 8 := fun q => h8 ((sh_nIeq (b := 8) (by omega) (by omega)).mp q)
    have h8n : ¬ (8 : Int32) < Int32.ofNat n := fun q => absurd ((sh_nIlt (a := 8) (by omega) (by omega)).mp q) (by omega)
    obtain ⟨cW, cG⟩ := sh_cwr (x := 34) (i := 8 * f + n) (v := mc.I 39 4) hI.pc (Or.inl (by omega))
    obtain ⟨mW, mG⟩ := sh_mwr (x := 81) (i := 8 * f + n) (v := mm.I 66 21) hI.pm (Or.inl (by omega))
    obtain ⟨m1, hm1⟩ : ∃ m1 : sh_X, m1 = (mc.T, sh_u2 mc.I 34 (8 * f + n) (mc.I 39 4), mc.J, mc.s) := ⟨_, rfl⟩
    obtain ⟨n1, hn1⟩ : ∃ n1 : sh_X, n1 = (mm.T, sh_u2 mm.I 81 (8 * f + n) (mm.I 66 21), mm.J, mm.s) := ⟨_, rfl⟩
    rw [← hm1] at cW cG
    rw [← hn1] at mW mG
    have hf31 : n1.I 66 31 = Int32.ofNat f := by
      rw [hn1]
      show sh_u2 mm.I 81 (8 * f + n) (mm.I 66 21) 66 31 = _
      rw [sh_u2_cell (by omega)]
      exact hI.f31
    have ec : sf_51_20s (Int32.ofNat f) (Int32.ofNat n) true (Int32.ofNat n) mc = sh_bt (sf_48 1 m1) (fun m => .inr ((none, m))) fun _ m11 => sh_bt (sf_52 m11) (fun m => .inr ((none, m))) fun _ m12 => sh_bc (sf_45 m12) fun r3 => if r3 = 44 then some (.inl (Int32.ofNat (n + 1), true, Int32.ofNat (n + 1), (m12.T, sh_u2 m12.I 39 4 (m12.I 39 4 + 1), m12.J, m12.s))) else some (.inl (Int32.ofNat (n + 1), false, Int32.ofNat (n + 1), m12)) := by
      unfold sf_51_20s sf_51_41
      rw [if_neg h8n, if_pos rfl, if_neg hn8, sh_n8, if_pos ((sh_okn (by omega)).mpr (by omega)), sh_nIc (by omega), ← hm1]
      unfold sf_51_85 sf_51_100
      simp only [sp_at0, sh_nI1, if_true, show sh_b2 true = (1 : Int32) from rfl, if_neg (show ¬ (false = true) by simp)]
    have em : sf_257_59s (Int32.ofNat n) true mm = sh_bn (sf_258 n1) fun r2 m12 => if r2 = true then sh_bn (sf_263 m12) fun r3 m13 => if r3 = true then
            if sh_okb ((8 * (m13.I 66 31)) + Int32.ofNat n) 4800 = true then
              if sh_okb ((8 * (m13.I 66 31)) + Int32.ofNat n) 4800 = true then
                if sh_okb (m13.I 66 21) 4002 = true then
                  if (m13.I 68 (Int32.toNatClampNeg (m13.I 66 21))) = 44 then
                    sf_257_176 (Int32.ofNat n + 1) true ⟨m13.T, sh_u2 (sh_u2 m13.I 82 (Int32.toNatClampNeg ((8 * (m13.I 66 31)) + Int32.ofNat n)) (m13.I 66 38)) 83 (Int32.toNatClampNeg ((8 * (m13.I 66 31)) + Int32.ofNat n)) (m13.I 66 39), m13.J, m13.s⟩
                  else
                    sf_257_176 (Int32.ofNat n + 1) false ⟨m13.T, sh_u2 (sh_u2 m13.I 82 (Int32.toNatClampNeg ((8 * (m13.I 66 31)) + Int32.ofNat n)) (m13.I 66 38)) 83 (Int32.toNatClampNeg ((8 * (m13.I 66 31)) + Int32.ofNat n)) (m13.I 66 39), m13.J, m13.s⟩
                else none
              else none
            else none
          else some (.inr ((false, m13))) else some (.inr ((false, m12))) := by
      unfold sf_257_59s
      rw [if_pos rfl, if_neg hn8, hI.f31, sh_8n, if_pos ((sh_okn (by omega)).mpr (by omega)), sh_nIc (by omega), ← hn1]
    rcases Classical.em (¬ K p = 1) with h1 | h1
    · left
      refine ⟨p, _, _, pN, ?_, ?_, cW.bad.cg (hI.cg.trans cG), mW.bad.mg (hI.mg.trans mG)⟩
      · unfold sf_51_20
        refine sh_wend ?_
        show sf_51_20s (Int32.ofNat f) (Int32.ofNat n) true (Int32.ofNat n) mc = _
        rw [ec, sh_48f cW h1]
        rfl
      · unfold sf_257_59
        refine sh_wend ?_
        show sf_257_59s (Int32.ofNat n) true mm = _
        rw [em, sh_258f mW h1, sh_bn_some, if_neg (by simp)]
    replace h1 := Decidable.of_not_not h1
    have hp : p < N := hT.lt pN (by rw [h1]; decide)
    obtain ⟨m2, b1, b2, b3⟩ := sh_48t cW h1 hp
    obtain ⟨n2, d1, d2, d3⟩ := sh_258t mW h1 hp
    have cG2 : sh_Cg mc0 m2 := (hI.cg.trans cG).trans (b3 0 0).cg
    have mG2 : sh_Mg mm0 n2 := (hI.mg.trans mG).trans (d3 0).mg
    rcases sh_type b2 d2 hT with ⟨z, mcf, mmf, z1, z2, z3, z4, z5⟩ | ⟨mc3, mm3, p2, z1, z2, z3, z4, z5, z6, z7, z8, z9, z10⟩
    · left
      refine ⟨z, mcf, mmf, z1, ?_, ?_, z4.cg cG2, z5.mg mG2⟩
      · unfold sf_51_20
        refine sh_wend ?_
        show sf_51_20s (Int32.ofNat f) (Int32.ofNat n) true (Int32.ofNat n) mc = _
        rw [ec, b1]
        show sh_bt (sf_52 m2) _ _ = _
        rw [z2]
        rfl
      · unfold sf_257_59
        refine sh_wend ?_
        show sf_257_59s (Int32.ofNat n) true mm = _
        rw [em, d1, sh_bn_some, if_pos rfl, z3, sh_bn_some, if_neg (by simp)]
    · have p2N := z3.pN
      have p2l : p + 2 ≤ p2 := by omega
      obtain ⟨q1, q2, q3⟩ := sh_mok z4
      have f31 : mm3.I 66 31 = Int32.ofNat f := by
        rw [(z6 0).I6 31 (by omega) (by omega) (by omega) (by omega) (by omega) (by omega), (d3 0).I6 31 (by omega) (by omega) (by omega) (by omega) (by omega) (by omega)]
        exact hf31
      obtain ⟨w1, w2⟩ := sh_mwr (x := 82) (i := 8 * f + n) (v := mm3.I 66 38) z4 (Or.inl (by omega))
      obtain ⟨w3, w4⟩ := sh_mwr (x := 83) (i := 8 * f + n) (v := mm3.I 66 39) w1 (Or.inl (by omega))
      obtain ⟨mm4, hmm4⟩ : ∃ mm4 : sh_X, mm4 = (mm3.T, sh_u2 (sh_u2 mm3.I 82 (8 * f + n) (mm3.I 66 38)) 83 (8 * f + n) (mm3.I 66 39), mm3.J, mm3.s) := ⟨_, rfl⟩
      have w3' : sh_Pm N K P V p2 g mm4 := by rw [hmm4]; exact w3
      have mG4 : sh_Mg mm0 mm4 := (mG2.trans (z6 0).mg).trans (w2.trans (by rw [hmm4]; exact w4))
      have cG3 : sh_Cg mc0 mc3 := cG2.trans (z5 0 0).cg
      have e4 : ∀ x y, x ≠ 66 → mm4.I x y = (if x = 81 ∧ y = 8 * f + n then Int32.ofNat p else if x = 82 ∧ y = 8 * f + n then mm3.I 66 38 else if x = 83 ∧ y = 8 * f + n then mm3.I 66 39 else mm.I x y) := by
        intro x y hx
        have a1 : mm3.I x y = n1.I x y := (sh_Mf.ox z6 x y hx).trans (sh_Mf.ox d3 x y hx)
        rw [hmm4]
        show sh_u2 (sh_u2 mm3.I 82 (8 * f + n) (mm3.I 66 38)) 83 (8 * f + n) (mm3.I 66 39) x y = _
        have a2 : n1.I x y = if x = 81 ∧ y = 8 * f + n then Int32.ofNat p else mm.I x y := by
          rw [hn1]
          show sh_u2 mm.I 81 (8 * f + n) (mm.I 66 21) x y = _
          unfold sh_u2
          by_cases h81 : x = 81
          · subst h81
            by_cases hy : y = 8 * f + n
            · rw [if_pos rfl, if_pos hy, if_pos ⟨rfl, hy⟩]; exact hI.pm.at_
            · rw [if_pos rfl, if_neg hy, if_neg (fun q => hy q.2)]
          · rw [if_neg h81, if_neg (fun q => h81 q.1)]
        unfold sh_u2
        rw [a1, a2]
        by_cases h83 : x = 83
        · subst h83
          by_cases hy : y = 8 * f + n
          · simp [hy]
          · simp [hy]
        · by_cases h82 : x = 82
          · subst h82
            by_cases hy : y = 8 * f + n
            · simp [hy]
            · simp [hy]
          · simp [h83, h82]
      have ec4 : ∀ x y, x ≠ 39 → ¬ (x = 28 ∧ y = 10) → mc3.I x y = (if x = 34 ∧ y = 8 * f + n then Int32.ofNat p else mc.I x y) := by
        intro x y hx hx2
        rw [sh_Cf.ox z5 x y hx hx2, sh_Cf.ox b3 x y hx hx2, hm1]
        show sh_u2 mc.I 34 (8 * f + n) (mc.I 39 4) x y = _
        unfold sh_u2
        by_cases h34 : x = 34
        · subst h34
          by_cases hy : y = 8 * f + n
          · rw [if_pos rfl, if_pos hy, if_pos ⟨rfl, hy⟩]; exact hI.pc.at_
          · rw [if_pos rfl, if_neg hy, if_neg (fun q => hy q.2)]
        · rw [if_neg h34, if_neg (fun q => h34 q.1)]
      have f31' : mm4.I 66 31 = Int32.ofNat f := by
        rw [hmm4]
        show sh_u2 (sh_u2 mm3.I 82 (8 * f + n) (mm3.I 66 38)) 83 (8 * f + n) (mm3.I 66 39) 66 31 = _
        rw [sh_u2_cell (by omega), sh_u2_cell (by omega)]
        exact f31
      have f36' : mm4.I 66 36 = mm0.I 66 36 := by
        rw [hmm4]
        show sh_u2 (sh_u2 mm3.I 82 (8 * f + n) (mm3.I 66 38)) 83 (8 * f + n) (mm3.I 66 39) 66 36 = _
        rw [sh_u2_cell (by omega), sh_u2_cell (by omega), (z6 0).I6 36 (by omega) (by omega) (by omega) (by omega) (by omega) (by omega), (d3 0).I6 36 (by omega) (by omega) (by omega) (by omega) (by omega) (by omega), hn1]
        show sh_u2 mm.I 81 (8 * f + n) (mm.I 66 21) 66 36 = _
        rw [sh_u2_cell (by omega)]
        exact hI.f36
      have hpr : sh_Pr K mm4.I mc3.I f (n + 1) (fun j => if j = n + 1 then p2 + 1 else t j) := by
        intro k hk
        by_cases hkn : k = n
        · subst hkn
          simp only [if_neg (show ¬ k = k + 1 by omega), if_true]
          rw [tn]
          refine ⟨by omega, h1, ?_, ?_, ?_⟩
          · rw [e4 81 _ (by omega), if_pos ⟨rfl, rfl⟩]
          · rw [ec4 34 _ (by omega) (by omega), if_pos ⟨rfl, rfl⟩]
          · rw [e4 82 _ (by omega), if_neg (by omega), if_pos ⟨rfl, rfl⟩, e4 83 _ (by omega), if_neg (by omega), if_neg (by omega), if_pos ⟨rfl, rfl⟩, z9]
            refine ⟨z8, rfl, ?_⟩
            rcases z10 with ⟨x1, x2, x3⟩ | ⟨x1, x2, x3, x4⟩
            · exact Or.inl ⟨x1, x3⟩
            · exact Or.inr ⟨x1, x2, x4⟩
        · have hkl : k < n := by omega
          obtain ⟨x1, x2, x3, x4, x5⟩ := hI.pr k hkl
          simp only [if_neg (show ¬ k = n + 1 by omega), if_neg (show ¬ k + 1 = n + 1 by omega)]
          refine ⟨x1, x2, ?_, ?_, ?_⟩
          · rw [e4 81 _ (by omega), if_neg (by omega), if_neg (by omega), if_neg (by omega)]; exact x3
          · rw [ec4 34 _ (by omega) (by omega), if_neg (by omega)]; exact x4
          · rw [e4 82 _ (by omega), if_neg (by omega), if_neg (by omega), if_neg (by omega), e4 83 _ (by omega), if_neg (by omega), if_neg (by omega), if_neg (by omega)]; exact x5
      have mo4 : ∀ x y, (x < 81 ∨ 83 < x) → x ≠ 66 → mm4.I x y = mm0.I x y := by
        intro x y h1 h2
        rw [e4 x y h2, if_neg (by omega), if_neg (by omega), if_neg (by omega)]
        exact hI.mo x y h1 h2
      have ml4 : ∀ x y, 81 ≤ x → x ≤ 83 → y < 8 * f → mm4.I x y = mm0.I x y := by
        intro x y h1 h2 h3
        rw [e4 x y (by omega), if_neg (by omega), if_neg (by omega), if_neg (by omega)]
        exact hI.ml x y h1 h2 h3
      have co4 : ∀ x y, x ≠ 34 → x ≠ 39 → ¬ (x = 28 ∧ y = 10) → mc3.I x y = mc0.I x y := by
        intro x y h1 h2 h3
        rw [ec4 x y h2 h3, if_neg (by omega)]
        exact hI.co x y h1 h2 h3
      have cl4 : ∀ y, y < 8 * f → mc3.I 34 y = mc0.I 34 y := by
        intro y hy
        rw [ec4 34 y (by omega) (by omega), if_neg (by omega)]
        exact hI.cl y hy
      have em4 : sf_257_59s (Int32.ofNat n) true mm = if K p2 = 44 then some (.inl (Int32.ofNat (n + 1), true, (mm4.T, sh_u2 mm4.I 66 21 (mm4.I 66 21 + 1), mm4.J, mm4.s))) else some (.inl (Int32.ofNat (n + 1), false, mm4)) := by
        rw [em, d1, sh_bn_some, if_pos rfl, z2, sh_bn_some, if_pos rfl, f31, sh_8n, if_pos ((sh_okn (by omega)).mpr (by omega)), if_pos ((sh_okn (by omega)).mpr (by omega)), if_pos q1, q2, sh_nIc (by omega), sh_nI1, ← hmm4]
        unfold sf_257_176
        by_cases h44 : K p2 = 44
        · rw [if_pos h44, if_pos ((z4.wq.tk p2N (Or.inr (Or.inr (by decide)))).mpr h44), if_pos rfl]
        · rw [if_neg h44, if_neg (fun q => h44 ((z4.wq.tk p2N (Or.inr (Or.inr (by decide)))).mp q)), if_neg (by simp)]
      have ecs : sf_51_20s (Int32.ofNat f) (Int32.ofNat n) true (Int32.ofNat n) mc = if K p2 = 44 then some (.inl (Int32.ofNat (n + 1), true, Int32.ofNat (n + 1), (mc3.T, sh_u2 mc3.I 39 4 (mc3.I 39 4 + 1), mc3.J, mc3.s))) else some (.inl (Int32.ofNat (n + 1), false, Int32.ofNat (n + 1), mc3)) := by
        rw [ec, b1]
        show sh_bt (sf_52 m2) _ _ = _
        rw [z1]
        show sh_bc (sf_45 mc3) _ = _
        rw [sh_45 z3, sh_bc_some]
      by_cases h44 : K p2 = 44
      · have hp2 : p2 < N := hT.lt p2N (by rw [h44]; decide)
        obtain ⟨cA, cF⟩ := sh_adv z3 hp2
        obtain ⟨mA, mF⟩ := sh_madv w3' hp2
        rw [if_pos h44] at em4 ecs
        have sc : sf_51_20 (Int32.ofNat f) (Int32.ofNat n) true (Int32.ofNat n) mc = sf_51_20 (Int32.ofNat f) (Int32.ofNat (n + 1)) true (Int32.ofNat (n + 1)) (mc3.T, sh_u2 mc3.I 39 4 (mc3.I 39 4 + 1), mc3.J, mc3.s) := by
          unfold sf_51_20
          exact sh_wstep ecs
        have sm : sf_257_59 (Int32.ofNat n) true mm = sf_257_59 (Int32.ofNat (n + 1)) true (mm4.T, sh_u2 mm4.I 66 21 (mm4.I 66 21 + 1), mm4.J, mm4.s) := by
          unfold sf_257_59
          exact sh_wstep em4
        rw [sc, sm]
        have hIn : sh_Pi N K P V f (n + 1) (fun j => if j = n + 1 then p2 + 1 else t j) mc0 mm0 (mc3.T, sh_u2 mc3.I 39 4 (mc3.I 39 4 + 1), mc3.J, mc3.s) (mm4.T, sh_u2 mm4.I 66 21 (mm4.I 66 21 + 1), mm4.J, mm4.s) (p2 + 1) c g := by
          refine sh_Pi.mk cA mA (cG3.trans (cF 0 0).cg) (mG4.trans (mF 0).mg) ?_ (by simp only [if_true]) (by omega) ?_ ?_ ?_ ?_ ?_ ?_
          · exact hpr.mono (fun k _ => ⟨sh_Mf.ox mF 81 _ (by omega), sh_Mf.ox mF 82 _ (by omega), sh_Mf.ox mF 83 _ (by omega)⟩) (fun k _ => sh_Cf.ox cF 34 _ (by omega) (by omega))
          · rw [(mF 0).I6 31 (by omega) (by omega) (by omega) (by omega) (by omega) (by omega)]; exact f31'
          · rw [(mF 0).I6 36 (by omega) (by omega) (by omega) (by omega) (by omega) (by omega)]; exact f36'
          · intro x y h1 h2; rw [sh_Mf.ox mF x y h2]; exact mo4 x y h1 h2
          · intro x y h1 h2 h3; rw [sh_Mf.ox mF x y (by omega)]; exact ml4 x y h1 h2 h3
          · intro x y h1 h2 h3; rw [sh_Cf.ox cF x y h2 h3]; exact co4 x y h1 h2 h3
          · intro y hy; rw [sh_Cf.ox cF 34 y (by omega) (by omega)]; exact cl4 y hy
        rcases ih (p2 + 1) c g (n + 1) _ _ _ (by omega) hIn with H | ⟨n9, t9, mc9, mm9, p9, H1, H2, H3, H4, H5, H6, H7, H8, H9, H10, H11⟩
        · exact Or.inl H
        · exact Or.inr ⟨n9, t9, mc9, mm9, p9, H1, H2, H3, H4, H5, H6, H7, H8, H9, H10.trans (by simp only [if_neg (show ¬ 0 = n + 1 by omega)]), H11⟩
      · right
        rw [if_neg h44] at em4 ecs
        refine ⟨n + 1, (fun j => if j = n + 1 then p2 + 1 else t j), mc3, mm4, p2, by omega, ?_, ?_, z3, w3', cG3, mG4, hpr, by simp only [if_true], by simp only [if_neg (show ¬ 0 = n + 1 by omega)], by omega, f31', f36', mo4, ml4, co4, cl4⟩
        · rw [← sh_51E (k := n + 1)]
          unfold sf_51_20
          exact sh_wstep ecs
        · rw [← sh_257E]
          unfold sf_257_59
          exact sh_wstep em4
end
