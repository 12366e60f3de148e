/-! PARSERS: expressions, side by side -/
/-- both have read an expression of the depth d -/
def sh_Ok (N : Nat) (K : Nat → Int32) (P V : Nat → Nat) (d p c w g : Nat) (mc mm mc2 mm2 : sh_X) (p2 c2 g2 e ht : Nat) : Prop := (sp_Pc N K P V p2 c2 w mc2) ∧ (sh_Pm N K P V p2 g2 mm2) ∧ (sh_Cf c w mc mc2) ∧ (sh_Mf g mm mm2) ∧ (p < p2) ∧ (3 * c2 + 4 * p + 1 ≤ 3 * c + 4 * p2) ∧ (c ≤ c2) ∧ (g2 + p ≤ g + p2) ∧ (sp_R N K V mm2.I mc2.I ht g g2 d e c c2 p p2) ∧ (mm2.I 78 e = Int32.ofNat p) ∧ (mm2.I 77 e = -1)
theorem sh_Ok.pc {N : Nat} {K : Nat → Int32} {P V : Nat → Nat} {d p c w g : Nat} {mc mm mc2 mm2 : sh_X} {p2 c2 g2 e ht : Nat} (h : sh_Ok N K P V d p c w g mc mm mc2 mm2 p2 c2 g2 e ht) : sp_Pc N K P V p2 c2 w mc2 := h.1
theorem sh_Ok.pm {N : Nat} {K : Nat → Int32} {P V : Nat → Nat} {d p c w g : Nat} {mc mm mc2 mm2 : sh_X} {p2 c2 g2 e ht : Nat} (h : sh_Ok N K P V d p c w g mc mm mc2 mm2 p2 c2 g2 e ht) : sh_Pm N K P V p2 g2 mm2 := h.2.1
theorem sh_Ok.cf {N : Nat} {K : Nat → Int32} {P V : Nat → Nat} {d p c w g : Nat} {mc mm mc2 mm2 : sh_X} {p2 c2 g2 e ht : Nat} (h : sh_Ok N K P V d p c w g mc mm mc2 mm2 p2 c2 g2 e ht) : sh_Cf c w mc mc2 := h.2.2.1
theorem sh_Ok.mf {N : Nat} {K : Nat → Int32} {P V : Nat → Nat} {d p c w g : Nat} {mc mm mc2 mm2 : sh_X} {p2 c2 g2 e ht : Nat} (h : sh_Ok N K P V d p c w g mc mm mc2 mm2 p2 c2 g2 e ht) : sh_Mf g mm mm2 := h.2.2.2.1
theorem sh_Ok.lp {N : Nat} {K : Nat → Int32} {P V : Nat → Nat} {d p c w g : Nat} {mc mm mc2 mm2 : sh_X} {p2 c2 g2 e ht : Nat} (h : sh_Ok N K P V d p c w g mc mm mc2 mm2 p2 c2 g2 e ht) : p < p2 := h.2.2.2.2.1
theorem sh_Ok.lc {N : Nat} {K : Nat → Int32} {P V : Nat → Nat} {d p c w g : Nat} {mc mm mc2 mm2 : sh_X} {p2 c2 g2 e ht : Nat} (h : sh_Ok N K P V d p c w g mc mm mc2 mm2 p2 c2 g2 e ht) : 3 * c2 + 4 * p + 1 ≤ 3 * c + 4 * p2 := h.2.2.2.2.2.1
theorem sh_Ok.cc {N : Nat} {K : Nat → Int32} {P V : Nat → Nat} {d p c w g : Nat} {mc mm mc2 mm2 : sh_X} {p2 c2 g2 e ht : Nat} (h : sh_Ok N K P V d p c w g mc mm mc2 mm2 p2 c2 g2 e ht) : c ≤ c2 := h.2.2.2.2.2.2.1
theorem sh_Ok.lg {N : Nat} {K : Nat → Int32} {P V : Nat → Nat} {d p c w g : Nat} {mc mm mc2 mm2 : sh_X} {p2 c2 g2 e ht : Nat} (h : sh_Ok N K P V d p c w g mc mm mc2 mm2 p2 c2 g2 e ht) : g2 + p ≤ g + p2 := h.2.2.2.2.2.2.2.1
theorem sh_Ok.r {N : Nat} {K : Nat → Int32} {P V : Nat → Nat} {d p c w g : Nat} {mc mm mc2 mm2 : sh_X} {p2 c2 g2 e ht : Nat} (h : sh_Ok N K P V d p c w g mc mm mc2 mm2 p2 c2 g2 e ht) : sp_R N K V mm2.I mc2.I ht g g2 d e c c2 p p2 := h.2.2.2.2.2.2.2.2.1
theorem sh_Ok.fi {N : Nat} {K : Nat → Int32} {P V : Nat → Nat} {d p c w g : Nat} {mc mm mc2 mm2 : sh_X} {p2 c2 g2 e ht : Nat} (h : sh_Ok N K P V d p c w g mc mm mc2 mm2 p2 c2 g2 e ht) : mm2.I 78 e = Int32.ofNat p := h.2.2.2.2.2.2.2.2.2.1
theorem sh_Ok.nx {N : Nat} {K : Nat → Int32} {P V : Nat → Nat} {d p c w g : Nat} {mc mm mc2 mm2 : sh_X} {p2 c2 g2 e ht : Nat} (h : sh_Ok N K P V d p c w g mc mm mc2 mm2 p2 c2 g2 e ht) : mm2.I 77 e = -1 := h.2.2.2.2.2.2.2.2.2.2
theorem sh_Ok.mk {N : Nat} {K : Nat → Int32} {P V : Nat → Nat} {d p c w g : Nat} {mc mm mc2 mm2 : sh_X} {p2 c2 g2 e ht : Nat} (pc : sp_Pc N K P V p2 c2 w mc2) (pm : sh_Pm N K P V p2 g2 mm2) (cf : sh_Cf c w mc mc2) (mf : sh_Mf g mm mm2) (lp : p < p2) (lc : 3 * c2 + 4 * p + 1 ≤ 3 * c + 4 * p2) (cc : c ≤ c2) (lg : g2 + p ≤ g + p2) (r : sp_R N K V mm2.I mc2.I ht g g2 d e c c2 p p2) (fi : mm2.I 78 e = Int32.ofNat p) (nx : mm2.I 77 e = -1) : sh_Ok N K P V d p c w g mc mm mc2 mm2 p2 c2 g2 e ht := ⟨pc, pm, cf, mf, lp, lc, cc, lg, r, fi, nx⟩
def sh_Ep (N : Nat) (K : Nat → Int32) (P V : Nat → Nat) (d p c w g : Nat) (mc mm : sh_X) (qc : Option (Option Unit × sh_X)) (qm : Option (Int32 × sh_X)) : Prop :=
  (∃ z mcf mmf, z ≤ N ∧ qc = some (none, mcf) ∧ qm = some (-1, mmf) ∧ sh_bdc P z mc mcf ∧ sh_bdm P z mm mmf) ∨
  (∃ mc2 mm2 p2 c2 g2 e h, qc = some (some (), mc2) ∧ qm = some (Int32.ofNat e, mm2) ∧ sh_Ok N K P V d p c w g mc mm mc2 mm2 p2 c2 g2 e h)
/-- where a parse may begin -/
def sh_Pb (N : Nat) (K : Nat → Int32) (P V : Nat → Nat) (p c w g : Nat) (mc mm : sh_X) : Prop := (sp_Pc N K P V p c w mc) ∧ (sh_Pm N K P V p g mm) ∧ (3 * c ≤ 4 * p + 100) ∧ (g ≤ p + 10)
theorem sh_Pb.pc {N : Nat} {K : Nat → Int32} {P V : Nat → Nat} {p c w g : Nat} {mc mm : sh_X} (h : sh_Pb N K P V p c w g mc mm) : sp_Pc N K P V p c w mc := h.1
theorem sh_Pb.pm {N : Nat} {K : Nat → Int32} {P V : Nat → Nat} {p c w g : Nat} {mc mm : sh_X} (h : sh_Pb N K P V p c w g mc mm) : sh_Pm N K P V p g mm := h.2.1
theorem sh_Pb.bc {N : Nat} {K : Nat → Int32} {P V : Nat → Nat} {p c w g : Nat} {mc mm : sh_X} (h : sh_Pb N K P V p c w g mc mm) : 3 * c ≤ 4 * p + 100 := h.2.2.1
theorem sh_Pb.bg {N : Nat} {K : Nat → Int32} {P V : Nat → Nat} {p c w g : Nat} {mc mm : sh_X} (h : sh_Pb N K P V p c w g mc mm) : g ≤ p + 10 := h.2.2.2
theorem sh_Pb.mk {N : Nat} {K : Nat → Int32} {P V : Nat → Nat} {p c w g : Nat} {mc mm : sh_X} (pc : sp_Pc N K P V p c w mc) (pm : sh_Pm N K P V p g mm) (bc : 3 * c ≤ 4 * p + 100) (bg : g ≤ p + 10) : sh_Pb N K P V p c w g mc mm := ⟨pc, pm, bc, bg⟩
def sh_HX (N : Nat) (K : Nat → Int32) (P V : Nat → Nat) (d : Nat) : Prop := ∀ u v, 5 * (41 - d) + 2 ≤ u → 16 * (41 - d) + 13 ≤ v → ∀ p c w g mc mm, sh_Pb N K P V p c w g mc mm → w ≤ 10 * d → sh_Ep N K P V d p c w g mc mm ((sq_44 u).f58 (Int32.ofNat d) mc) ((sq_240 v).f267 (Int32.ofNat d) mm)
def sh_HO (N : Nat) (K : Nat → Int32) (P V : Nat → Nat) (d : Nat) : Prop := ∀ u v, 5 * (41 - d) + 1 ≤ u → 16 * (41 - d) + 1 ≤ v → ∀ p c w g mc mm, sh_Pb N K P V p c w g mc mm → w ≤ 10 * d + 10 → sh_Ep N K P V d p c w g mc mm ((sq_44 u).f59 (Int32.ofNat d) mc) ((sq_240 v).f270 (Int32.ofNat d) mm)
section
variable {N : Nat} {K : Nat → Int32} {P V : Nat → Nat}
theorem sh_Txt.lt (hT : sh_Txt N K P V) {p : Nat} (hp : p ≤ N) (hk : K p ≠ 0) : p < N := by
  rcases Nat.lt_or_ge p N with h | h
  · exact h
  · have : p = N := by omega
    rw [this, hT.KN] at hk
    exact absurd rfl hk
theorem sh_R_e {A C : Nat → Nat → Int32} {h lo hi d e i j p q : Nat} (H : sp_R N K V A C h lo hi d e i j p q) : lo ≤ e ∧ e < hi ∧ d ≤ 40 ∧ i < j ∧ q ≤ N := by
  cases h with
  | zero => exact absurd H (by simp [sp_R])
  | succ h => unfold sp_R at H; exact H.1
/-- a fault that came in a later state -/
theorem sh_Ep.fail {d p c w g g1 : Nat} {mc mm mc1 mm1 : sh_X} {a b : Nat} {z : Nat} {mcf mmf : sh_X} {qc : Option (Option Unit × sh_X)} {qm : Option (Int32 × sh_X)} (hz : z ≤ N) (h1 : qc = some (none, mcf)) (h2 : qm = some (-1, mmf)) (f1 : sh_Cf a b mc mc1) (f2 : sh_Mf g1 mm mm1) (b1 : sh_bdc P z mc1 mcf) (b2 : sh_bdm P z mm1 mmf) : sh_Ep N K P V d p c w g mc mm qc qm := Or.inl ⟨z, mcf, mmf, hz, h1, h2, b1.of f1, b2.of f2⟩
/-- number, true, false -/
theorem sh_pleaf {d p c w g u v : Nat} {mc mm : sh_X} (hT : sh_Txt N K P V) (hb : sh_Pb N K P V p c w g mc mm) (hd : d ≤ 40) (hK : K p = 2 ∨ K p = 7 ∨ K p = 15) : sh_Ep N K P V d p c w g mc mm (sf_61 (sq_44 u) (Int32.ofNat d) mc) (sf_272 (sq_240 v) (Int32.ofNat d) mm) := by
  have n4 := hb.pc.N4
  have bc := hb.bc
  have bg := hb.bg
  have pN := hb.pc.pN
  have hp : p < N := hT.lt pN (by rcases hK with h | h | h <;> (rw [h]; decide))
  obtain ⟨k1, k2, k3⟩ := sh_mok hb.pm
  obtain ⟨mA, mF⟩ := sh_madv hb.pm hp
  have t19 := hb.pm.wq.wd pN (show 11 < 12 by omega)
  have t12 := hb.pm.wq.wd pN (show 3 < 12 by omega)
  -- what is the same for all three
  have fin : ∀ (ak : Int32) (am kd : Int32) , ((kd = 1 ∧ ak = 19 ∧ K p = 2) ∨ (kd = 2 ∧ ak = 20 ∧ am = 1) ∨ (kd = 3 ∧ ak = 20 ∧ am = 0)) → ∀ qc qm, (∀ m1 m2, sf_56 ak (mc.I 39 4) am mc = some (Int32.ofNat c, m1) → m2 = (m1.T, sh_u2 m1.I 39 4 (m1.I 39 4 + 1), m1.J, m1.s) → qc = some (some (), m2)) → qm = sh_bn (sf_266 kd (mm.I 66 21) (-1) (-1) (mm.T, sh_u2 mm.I 66 21 (mm.I 66 21 + 1), mm.J, mm.s)) (fun r m => some (r, m)) → sh_Ep N K P V d p c w g mc mm qc qm := by
    intro ak am kd hk qc qm h1 h2
    obtain ⟨m1, a1, a2, a3, a4, a5, a6⟩ := sh_56 (a := ak) (x := mc.I 39 4) (y := am) hb.pc (by omega)
    obtain ⟨b1, b2⟩ := sh_adv a2 hp
    obtain ⟨n1, e1, e2, e3, e4, e5, e6, e7, e8, e9, e10⟩ := sh_266 (k := kd) (t := mm.I 66 21) (a := -1) (b := -1) mA (by omega)
    refine Or.inr ⟨_, n1, p + 1, c + 1, g + 1, g, 1, h1 m1 _ a1 rfl, by rw [h2, e1]; rfl, sh_Ok.mk b1 e2 ((a3 w).trans (b2 (c + 1) w) (by omega) (Nat.le_refl _)) ((mF g).trans e3 (Nat.le_refl _)) (by omega) (by omega) (by omega) (by omega) ?_ ?_ e9⟩
    · obtain ⟨f1, f2, f3⟩ := (b2 (c + 1) w).cd c (by omega)
      unfold sp_R
      refine ⟨⟨by omega, by omega, hd, by omega, by omega⟩, p, by rw [e5]; exact hb.pm.at_, by omega, by omega, Or.inl ⟨rfl, by rw [f2, a5]; exact hb.pc.at_, ?_⟩⟩
      rw [f1, f3, a4, a6, e4]
      rcases hk with ⟨x1, x2, x3⟩ | ⟨x1, x2, x3⟩ | ⟨x1, x2, x3⟩
      · exact Or.inl ⟨x1, x2, x3⟩
      · exact Or.inr (Or.inl ⟨x1, x2, x3⟩)
      · exact Or.inr (Or.inr (Or.inl ⟨x1, x2, x3⟩))
    · rw [e10]; exact hb.pm.at_
  unfold sf_61 sf_272
  rw [sh_45 hb.pc, sh_bc_some, if_pos k1, k2]
  have k2' : mm.I 68 p = 2 ↔ K p = 2 := hb.pm.wq.tk pN (Or.inr (Or.inl rfl))
  rcases hK with h | h | h
  · rw [if_neg (by rw [h]; decide), if_pos h, if_pos (k2'.mpr h)]
    exact fin 19 0 1 (Or.inl ⟨rfl, rfl, h⟩) _ _ (fun m1 m2 q1 q2 => by rw [q1, q2]; rfl) rfl
  · have hn2 : ¬ K p = 2 := by rw [h]; decide
    have hnt : ¬ K p = Int32.ofNat (4 + 11) := by rw [h]; decide
    rw [if_neg (by rw [h]; decide), if_neg hn2, if_neg (by rw [h]; decide), if_pos (Or.inl h), sh_bc_some, if_neg (by rw [h]; decide), if_neg (fun q => hn2 (k2'.mp q))]
    rw [show sf_256 (mm.I 66 21) 19 mm = some (decide (K p = Int32.ofNat (4 + 11))) by rw [hb.pm.at_]; exact t19, sh_bc_some, decide_eq_false hnt, if_neg (by simp)]
    rw [show sf_256 (mm.I 66 21) 12 mm = some (decide (K p = Int32.ofNat (4 + 3))) by rw [hb.pm.at_]; exact t12, sh_bc_some, decide_eq_true (show K p = Int32.ofNat (4 + 3) from h), if_pos rfl]
    unfold sf_272_56
    have t19' := mA.wq.wd (i := p) pN (show 11 < 12 by omega)
    rw [show sf_256 (mm.I 66 21) 19 (mm.T, sh_u2 mm.I 66 21 (mm.I 66 21 + 1), mm.J, mm.s) = some (decide (K p = Int32.ofNat (4 + 11))) by rw [hb.pm.at_] at t19' ⊢; exact t19', sh_bc_some, decide_eq_false hnt, if_neg (by simp)]
    refine fin 20 0 3 (Or.inr (Or.inr ⟨rfl, rfl, rfl⟩)) _ _ (fun m1 m2 q1 q2 => ?_) rfl
    unfold sf_61_124
    rw [show sh_b2 false = 0 from rfl, q1, q2]
    rfl
  · have hn2 : ¬ K p = 2 := by rw [h]; decide
    rw [if_neg (by rw [h]; decide), if_neg hn2, if_neg (by rw [h]; decide), if_pos (Or.inr h), sh_bc_some, if_pos h, if_neg (fun q => hn2 (k2'.mp q))]
    rw [show sf_256 (mm.I 66 21) 19 mm = some (decide (K p = Int32.ofNat (4 + 11))) by rw [hb.pm.at_]; exact t19, sh_bc_some, decide_eq_true (show K p = Int32.ofNat (4 + 11) from h), if_pos rfl]
    unfold sf_272_56
    have t19' := mA.wq.wd (i := p) pN (show 11 < 12 by omega)
    rw [show sf_256 (mm.I 66 21) 19 (mm.T, sh_u2 mm.I 66 21 (mm.I 66 21 + 1), mm.J, mm.s) = some (decide (K p = Int32.ofNat (4 + 11))) by rw [hb.pm.at_] at t19' ⊢; exact t19', sh_bc_some, decide_eq_true (show K p = Int32.ofNat (4 + 11) from h), if_pos rfl]
    refine fin 20 1 2 (Or.inr (Or.inl ⟨rfl, rfl, rfl⟩)) _ _ (fun m1 m2 q1 q2 => ?_) rfl
    unfold sf_61_124
    rw [show sh_b2 true = 1 from rfl, q1, q2]
    rfl
end
