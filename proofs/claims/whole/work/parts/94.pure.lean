/-! PARSERS: statements, side by side -/
def sh_So (N : Nat) (K : Nat → Int32) (P V : Nat → Nat) (d p c g : Nat) (mc mm mc2 mm2 : sh_X) (p2 c2 g2 ht : Nat) : Prop := (sp_Pc N K P V p2 c2 0 mc2) ∧ (sh_Pm N K P V p2 g2 mm2) ∧ (sh_Cf c 0 mc mc2) ∧ (sh_Mf g mm mm2) ∧ (p < p2) ∧ (3 * c2 + 4 * p ≤ 3 * c + 4 * p2) ∧ (c ≤ c2) ∧ (g2 + p ≤ g + p2) ∧ (sp_S N K V mm2.I mc2.I ht g g2 d g c c2 p p2) ∧ (mm2.I 77 g = -1)
theorem sh_So.pc {N : Nat} {K : Nat → Int32} {P V : Nat → Nat} {d p c g : Nat} {mc mm mc2 mm2 : sh_X} {p2 c2 g2 ht : Nat} (h : sh_So N K P V d p c g mc mm mc2 mm2 p2 c2 g2 ht) : sp_Pc N K P V p2 c2 0 mc2 := h.1
theorem sh_So.pm {N : Nat} {K : Nat → Int32} {P V : Nat → Nat} {d p c g : Nat} {mc mm mc2 mm2 : sh_X} {p2 c2 g2 ht : Nat} (h : sh_So N K P V d p c g mc mm mc2 mm2 p2 c2 g2 ht) : sh_Pm N K P V p2 g2 mm2 := h.2.1
theorem sh_So.cf {N : Nat} {K : Nat → Int32} {P V : Nat → Nat} {d p c g : Nat} {mc mm mc2 mm2 : sh_X} {p2 c2 g2 ht : Nat} (h : sh_So N K P V d p c g mc mm mc2 mm2 p2 c2 g2 ht) : sh_Cf c 0 mc mc2 := h.2.2.1
theorem sh_So.mf {N : Nat} {K : Nat → Int32} {P V : Nat → Nat} {d p c g : Nat} {mc mm mc2 mm2 : sh_X} {p2 c2 g2 ht : Nat} (h : sh_So N K P V d p c g mc mm mc2 mm2 p2 c2 g2 ht) : sh_Mf g mm mm2 := h.2.2.2.1
theorem sh_So.lp {N : Nat} {K : Nat → Int32} {P V : Nat → Nat} {d p c g : Nat} {mc mm mc2 mm2 : sh_X} {p2 c2 g2 ht : Nat} (h : sh_So N K P V d p c g mc mm mc2 mm2 p2 c2 g2 ht) : p < p2 := h.2.2.2.2.1
theorem sh_So.lc {N : Nat} {K : Nat → Int32} {P V : Nat → Nat} {d p c g : Nat} {mc mm mc2 mm2 : sh_X} {p2 c2 g2 ht : Nat} (h : sh_So N K P V d p c g mc mm mc2 mm2 p2 c2 g2 ht) : 3 * c2 + 4 * p ≤ 3 * c + 4 * p2 := h.2.2.2.2.2.1
theorem sh_So.cc {N : Nat} {K : Nat → Int32} {P V : Nat → Nat} {d p c g : Nat} {mc mm mc2 mm2 : sh_X} {p2 c2 g2 ht : Nat} (h : sh_So N K P V d p c g mc mm mc2 mm2 p2 c2 g2 ht) : c ≤ c2 := h.2.2.2.2.2.2.1
theorem sh_So.lg {N : Nat} {K : Nat → Int32} {P V : Nat → Nat} {d p c g : Nat} {mc mm mc2 mm2 : sh_X} {p2 c2 g2 ht : Nat} (h : sh_So N K P V d p c g mc mm mc2 mm2 p2 c2 g2 ht) : g2 + p ≤ g + p2 := h.2.2.2.2.2.2.2.1
theorem sh_So.st {N : Nat} {K : Nat → Int32} {P V : Nat → Nat} {d p c g : Nat} {mc mm mc2 mm2 : sh_X} {p2 c2 g2 ht : Nat} (h : sh_So N K P V d p c g mc mm mc2 mm2 p2 c2 g2 ht) : sp_S N K V mm2.I mc2.I ht g g2 d g c c2 p p2 := h.2.2.2.2.2.2.2.2.1
theorem sh_So.nx {N : Nat} {K : Nat → Int32} {P V : Nat → Nat} {d p c g : Nat} {mc mm mc2 mm2 : sh_X} {p2 c2 g2 ht : Nat} (h : sh_So N K P V d p c g mc mm mc2 mm2 p2 c2 g2 ht) : mm2.I 77 g = -1 := h.2.2.2.2.2.2.2.2.2
theorem sh_So.mk {N : Nat} {K : Nat → Int32} {P V : Nat → Nat} {d p c g : Nat} {mc mm mc2 mm2 : sh_X} {p2 c2 g2 ht : Nat} (pc : sp_Pc N K P V p2 c2 0 mc2) (pm : sh_Pm N K P V p2 g2 mm2) (cf : sh_Cf c 0 mc mc2) (mf : sh_Mf g mm mm2) (lp : p < p2) (lc : 3 * c2 + 4 * p ≤ 3 * c + 4 * p2) (cc : c ≤ c2) (lg : g2 + p ≤ g + p2) (st : sp_S N K V mm2.I mc2.I ht g g2 d g c c2 p p2) (nx : mm2.I 77 g = -1) : sh_So N K P V d p c g mc mm mc2 mm2 p2 c2 g2 ht := ⟨pc, pm, cf, mf, lp, lc, cc, lg, st, nx⟩
def sh_Sp (N : Nat) (K : Nat → Int32) (P V : Nat → Nat) (d p c g : Nat) (mc mm : sh_X) (qc : Option (Option Unit × sh_X)) (qm : Option (Int32 × sh_X)) : Prop :=
  (∃ z mcf mmf, z ≤ N ∧ qc = some (none, mcf) ∧ qm = some (-1, mmf) ∧ sh_bdc P z mc mcf ∧ sh_bdm P z mm mmf) ∨
  (∃ mc2 mm2 p2 c2 g2 ht, qc = some (some (), mc2) ∧ qm = some (Int32.ofNat g, mm2) ∧ sh_So N K P V d p c g mc mm mc2 mm2 p2 c2 g2 ht)
def sh_Qb (N : Nat) (K : Nat → Int32) (P V : Nat → Nat) (p c g : Nat) (mc mm : sh_X) : Prop := (sp_Pc N K P V p c 0 mc) ∧ (sh_Pm N K P V p g mm) ∧ (3 * c ≤ 4 * p + 50) ∧ (g ≤ p + 5)
theorem sh_Qb.pc {N : Nat} {K : Nat → Int32} {P V : Nat → Nat} {p c g : Nat} {mc mm : sh_X} (h : sh_Qb N K P V p c g mc mm) : sp_Pc N K P V p c 0 mc := h.1
theorem sh_Qb.pm {N : Nat} {K : Nat → Int32} {P V : Nat → Nat} {p c g : Nat} {mc mm : sh_X} (h : sh_Qb N K P V p c g mc mm) : sh_Pm N K P V p g mm := h.2.1
theorem sh_Qb.bc {N : Nat} {K : Nat → Int32} {P V : Nat → Nat} {p c g : Nat} {mc mm : sh_X} (h : sh_Qb N K P V p c g mc mm) : 3 * c ≤ 4 * p + 50 := h.2.2.1
theorem sh_Qb.bg {N : Nat} {K : Nat → Int32} {P V : Nat → Nat} {p c g : Nat} {mc mm : sh_X} (h : sh_Qb N K P V p c g mc mm) : g ≤ p + 5 := h.2.2.2
theorem sh_Qb.mk {N : Nat} {K : Nat → Int32} {P V : Nat → Nat} {p c g : Nat} {mc mm : sh_X} (pc : sp_Pc N K P V p c 0 mc) (pm : sh_Pm N K P V p g mm) (bc : 3 * c ≤ 4 * p + 50) (bg : g ≤ p + 5) : sh_Qb N K P V p c g mc mm := ⟨pc, pm, bc, bg⟩
section
variable {N : Nat} {K : Nat → Int32} {P V : Nat → Nat}
/-- an expression, then its root is kept in the part g0 (entry 74 or 75), then a word is needed -/
theorem sh_pthen {d p c g g0 x u : Nat} {k : Int32} {mc mm : sh_X} {kc : sh_X → Option (Option Unit × sh_X)} {km : sh_X → Option (Int32 × sh_X)} (hT : sh_Txt N K P V) (hd : d ≤ 41) (hb : sh_Pb N K P V p c 0 g mc mm) (hg0 : g0 < g) (hx : x = 74 ∨ x = 75) (hk : 33 ≤ k.toInt) (hu : 300 ≤ u) :
    (∃ z mcf mmf, z ≤ N ∧ (sh_bt ((sq_44 u).f58 (Int32.ofNat d) mc) (fun m => (none, m)) fun _ m => kc m) = some (none, mcf) ∧ (sh_bn ((sq_240 sh_dp).f267 (Int32.ofNat d) mm) fun r m => if sh_u2 m.I x g0 r x g0 < 0 then some (-1, ((m.T, sh_u2 m.I x g0 r, m.J, m.s) : sh_X)) else sh_bn (sf_262 k (m.T, sh_u2 m.I x g0 r, m.J, m.s)) fun r2 m2 => if r2 = true then km m2 else some (-1, m2)) = some (-1, mmf) ∧ sh_bdc P z mc mcf ∧ sh_bdm P z mm mmf) ∨
    (∃ z mc2 mmf, z ≤ N ∧ (sh_bt ((sq_44 u).f58 (Int32.ofNat d) mc) (fun m => (none, m)) fun _ m => kc m) = kc mc2 ∧ (sh_bn ((sq_240 sh_dp).f267 (Int32.ofNat d) mm) fun r m => if sh_u2 m.I x g0 r x g0 < 0 then some (-1, ((m.T, sh_u2 m.I x g0 r, m.J, m.s) : sh_X)) else sh_bn (sf_262 k (m.T, sh_u2 m.I x g0 r, m.J, m.s)) fun r2 m2 => if r2 = true then km m2 else some (-1, m2)) = some (-1, mmf) ∧ (∃ c2, sp_Pc N K P V z c2 0 mc2 ∧ c ≤ c2 ∧ 3 * c2 + 4 * p + 1 ≤ 3 * c + 4 * z) ∧ sh_Cf c 0 mc mc2 ∧ sh_bdm P z mm mmf ∧ ¬ K z = k) ∨
    (∃ mc2 mm2 p2 c2 g2 e ht, (sh_bt ((sq_44 u).f58 (Int32.ofNat d) mc) (fun m => (none, m)) fun _ m => kc m) = kc mc2 ∧ (sh_bn ((sq_240 sh_dp).f267 (Int32.ofNat d) mm) fun r m => if sh_u2 m.I x g0 r x g0 < 0 then some (-1, ((m.T, sh_u2 m.I x g0 r, m.J, m.s) : sh_X)) else sh_bn (sf_262 k (m.T, sh_u2 m.I x g0 r, m.J, m.s)) fun r2 m2 => if r2 = true then km m2 else some (-1, m2)) = km mm2 ∧
      K p2 = k ∧ p2 < N ∧ sp_Pc N K P V p2 c2 0 mc2 ∧ sh_Pm N K P V (p2 + 1) g2 mm2 ∧ sh_Cf c 0 mc mc2 ∧ sh_Mf g0 mm mm2 ∧ p < p2 ∧ 3 * c2 + 4 * p + 1 ≤ 3 * c + 4 * p2 ∧ c ≤ c2 ∧ g2 + p ≤ g + p2 ∧ sp_R N K V mm2.I mc2.I ht g g2 d e c c2 p p2 ∧ mm2.I 78 e = Int32.ofNat p ∧ mm2.I x g0 = Int32.ofNat e ∧ (∀ y, 72 ≤ y → y ≤ 78 → y ≠ x → mm2.I y g0 = mm.I y g0) ∧ (∀ z, g0 < z → z < g → ∀ y, 72 ≤ y → y ≤ 78 → mm2.I y z = mm.I y z)) := by
  have n4 := hb.pc.N4
  have bg := hb.bg
  rcases sh_pexpu hT hd hu hb with ⟨z, mcf, mmf, z1, z2, z3, z4, z5⟩ | ⟨mc2, mm2, p2, c2, g2, e, ht, z1, z2, hO⟩
  · left
    refine ⟨z, mcf, _, z1, by rw [z2]; rfl, by rw [z3, sh_bn_some, sh_u2_same, if_pos (by decide)], z4, z5.set (by omega)⟩
  · right
    have re := sh_R_e hO.r
    have lg := hO.lg
    have lc := hO.lc
    have lp := hO.lp
    have cc := hO.cc
    have p2N := hO.pm.pN
    obtain ⟨f1, f2⟩ := sh_pset (e := g0) (x := x) (v := Int32.ofNat e) hO.pm (by omega)
    rw [z1, z2]
    rw [sh_bn_some, sh_u2_same, if_neg (sh_nn (by omega))]
    by_cases hk2 : K p2 = k
    · right
      have hp2 : p2 < N := hT.lt p2N (by rw [hk2]; intro q; rw [q] at hk; exact absurd hk (by decide))
      obtain ⟨n3, j1, j3, j4⟩ := sh_262t f1 (Or.inr (Or.inr hk)) hk2 hp2
      have mfr : ∀ y, y < g2 → ∀ z, 72 ≤ z → z ≤ 78 → n3.I z y = sh_u2 mm2.I x g0 (Int32.ofNat e) z y := fun y hy z h1 h2 => (j4 g2).pt y hy z h1 h2
      have mfo : ∀ y, y ≠ g0 → y < g2 → ∀ z, 72 ≤ z → z ≤ 78 → n3.I z y = mm2.I z y := by
        intro y y1 y2 z h1 h2
        rw [mfr y y2 z h1 h2]
        by_cases hz : z = x
        · subst hz; rw [sh_u2_idx y1]
        · rw [sh_u2_cell hz]
      refine ⟨mc2, n3, p2, c2, g2, e, ht, rfl, by rw [j1, sh_bn_some, if_pos rfl], hk2, hp2, hO.pc, j3, hO.cf, (hO.mf.less (show g0 ≤ g by omega)).trans (f2.trans (j4 g0) (Nat.le_refl _)) (Nat.le_refl _), lp, lc, cc, lg, ?_, ?_, ?_, ?_, ?_⟩
      · refine sh_R_mono ht ht g g2 g g2 d d e c c2 p p2 p p2 hO.r (Nat.le_refl _) (Nat.le_refl _) (Nat.le_refl _) (Nat.le_refl _) (Nat.le_refl _) (Nat.le_refl _) p2N ?_ ?_ (fun _ _ _ => ⟨rfl, rfl, rfl⟩)
        · intro y y1 y2
          exact ⟨mfo y (by omega) y2 72 (by omega) (by omega), mfo y (by omega) y2 73 (by omega) (by omega), mfo y (by omega) y2 74 (by omega) (by omega), mfo y (by omega) y2 75 (by omega) (by omega)⟩
        · intro y y1 y2 y3
          exact ⟨mfo y (by omega) y2 77 (by omega) (by omega), mfo y (by omega) y2 78 (by omega) (by omega)⟩
      · rw [mfo e (by omega) re.2.1 78 (by omega) (by omega)]; exact hO.fi
      · rw [mfr g0 (by omega) x (by omega) (by omega), sh_u2_same]
      · intro y y1 y2 y3
        rw [mfr g0 (by omega) y y1 y2, sh_u2_cell y3, hO.mf.pt g0 hg0 y y1 y2]
      · intro z z1 z2 y y1 y2
        rw [mfo z (by omega) (by omega) y y1 y2, hO.mf.pt z z2 y y1 y2]
    · left
      refine ⟨p2, mc2, _, p2N, rfl, by rw [sh_262f f1 (Or.inr (Or.inr hk)) hk2, sh_bn_some, if_neg (by simp)], ⟨c2, hO.pc, cc, lc⟩, hO.cf, (f1.bad.of f2).of hO.mf, hk2⟩
theorem sh_R_fr {ht g g2 d e c c2 p p2 : Nat} {A C A' C' : Nat → Nat → Int32} (h : sp_R N K V A C ht g g2 d e c c2 p p2) (hA : ∀ x, g ≤ x → x < g2 → ∀ y, 72 ≤ y → y ≤ 78 → A' y x = A y x) (hC : ∀ y, c ≤ y → y < c2 → C' 36 y = C 36 y ∧ C' 37 y = C 37 y ∧ C' 38 y = C 38 y) : sp_R N K V A' C' ht g g2 d e c c2 p p2 :=
  sh_R_mono ht ht g g2 g g2 d d e c c2 p p2 p p2 h (Nat.le_refl _) (Nat.le_refl _) (Nat.le_refl _) (Nat.le_refl _) (Nat.le_refl _) (Nat.le_refl _) (sh_R_e h).2.2.2.2 (fun x x1 x2 => ⟨hA x x1 x2 72 (by omega) (by omega), hA x x1 x2 73 (by omega) (by omega), hA x x1 x2 74 (by omega) (by omega), hA x x1 x2 75 (by omega) (by omega)⟩) (fun x x1 x2 _ => ⟨hA x x1 x2 77 (by omega) (by omega), hA x x1 x2 78 (by omega) (by omega)⟩) hC
end
