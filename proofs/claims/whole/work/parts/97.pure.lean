/-! PARSERS: blocks -/
def sp_To (N : Nat) (K : Nat → Int32) (P V : Nat → Nat) (d p c g : Nat) (mc mm mc2 mm2 : sh_X) (p2 c2 g2 ht : Nat) (x : Int32) : Prop := (sp_Pc N K P V p2 c2 0 mc2) ∧ (sh_Pm N K P V p2 g2 mm2) ∧ (sh_Cf c 0 mc mc2) ∧ (sh_Mf g mm mm2) ∧ (p ≤ p2) ∧ (3 * c2 + 4 * p ≤ 3 * c + 4 * p2) ∧ (c ≤ c2) ∧ (g2 + p ≤ g + p2) ∧ (g ≤ g2) ∧ (sh_Sl mm2.I (sp_S N K V mm2.I mc2.I ht) g g2 d x c c2 p p2) ∧ (x ≠ -2) ∧ (¬ sf_54 (K p2) = true)
theorem sp_To.pc {N : Nat} {K : Nat → Int32} {P V : Nat → Nat} {d p c g : Nat} {mc mm mc2 mm2 : sh_X} {p2 c2 g2 ht : Nat} {x : Int32} (h : sp_To N K P V d p c g mc mm mc2 mm2 p2 c2 g2 ht x) : sp_Pc N K P V p2 c2 0 mc2 := h.1
theorem sp_To.pm {N : Nat} {K : Nat → Int32} {P V : Nat → Nat} {d p c g : Nat} {mc mm mc2 mm2 : sh_X} {p2 c2 g2 ht : Nat} {x : Int32} (h : sp_To N K P V d p c g mc mm mc2 mm2 p2 c2 g2 ht x) : sh_Pm N K P V p2 g2 mm2 := h.2.1
theorem sp_To.cf {N : Nat} {K : Nat → Int32} {P V : Nat → Nat} {d p c g : Nat} {mc mm mc2 mm2 : sh_X} {p2 c2 g2 ht : Nat} {x : Int32} (h : sp_To N K P V d p c g mc mm mc2 mm2 p2 c2 g2 ht x) : sh_Cf c 0 mc mc2 := h.2.2.1
theorem sp_To.mf {N : Nat} {K : Nat → Int32} {P V : Nat → Nat} {d p c g : Nat} {mc mm mc2 mm2 : sh_X} {p2 c2 g2 ht : Nat} {x : Int32} (h : sp_To N K P V d p c g mc mm mc2 mm2 p2 c2 g2 ht x) : sh_Mf g mm mm2 := h.2.2.2.1
theorem sp_To.lp {N : Nat} {K : Nat → Int32} {P V : Nat → Nat} {d p c g : Nat} {mc mm mc2 mm2 : sh_X} {p2 c2 g2 ht : Nat} {x : Int32} (h : sp_To N K P V d p c g mc mm mc2 mm2 p2 c2 g2 ht x) : p ≤ p2 := h.2.2.2.2.1
theorem sp_To.lc {N : Nat} {K : Nat → Int32} {P V : Nat → Nat} {d p c g : Nat} {mc mm mc2 mm2 : sh_X} {p2 c2 g2 ht : Nat} {x : Int32} (h : sp_To N K P V d p c g mc mm mc2 mm2 p2 c2 g2 ht x) : 3 * c2 + 4 * p ≤ 3 * c + 4 * p2 := h.2.2.2.2.2.1
theorem sp_To.cc {N : Nat} {K : Nat → Int32} {P V : Nat → Nat} {d p c g : Nat} {mc mm mc2 mm2 : sh_X} {p2 c2 g2 ht : Nat} {x : Int32} (h : sp_To N K P V d p c g mc mm mc2 mm2 p2 c2 g2 ht x) : c ≤ c2 := h.2.2.2.2.2.2.1
theorem sp_To.lg {N : Nat} {K : Nat → Int32} {P V : Nat → Nat} {d p c g : Nat} {mc mm mc2 mm2 : sh_X} {p2 c2 g2 ht : Nat} {x : Int32} (h : sp_To N K P V d p c g mc mm mc2 mm2 p2 c2 g2 ht x) : g2 + p ≤ g + p2 := h.2.2.2.2.2.2.2.1
theorem sp_To.gg {N : Nat} {K : Nat → Int32} {P V : Nat → Nat} {d p c g : Nat} {mc mm mc2 mm2 : sh_X} {p2 c2 g2 ht : Nat} {x : Int32} (h : sp_To N K P V d p c g mc mm mc2 mm2 p2 c2 g2 ht x) : g ≤ g2 := h.2.2.2.2.2.2.2.2.1
theorem sp_To.sl {N : Nat} {K : Nat → Int32} {P V : Nat → Nat} {d p c g : Nat} {mc mm mc2 mm2 : sh_X} {p2 c2 g2 ht : Nat} {x : Int32} (h : sp_To N K P V d p c g mc mm mc2 mm2 p2 c2 g2 ht x) : sh_Sl mm2.I (sp_S N K V mm2.I mc2.I ht) g g2 d x c c2 p p2 := h.2.2.2.2.2.2.2.2.2.1
theorem sp_To.x2 {N : Nat} {K : Nat → Int32} {P V : Nat → Nat} {d p c g : Nat} {mc mm mc2 mm2 : sh_X} {p2 c2 g2 ht : Nat} {x : Int32} (h : sp_To N K P V d p c g mc mm mc2 mm2 p2 c2 g2 ht x) : x ≠ -2 := h.2.2.2.2.2.2.2.2.2.2.1
theorem sp_To.en {N : Nat} {K : Nat → Int32} {P V : Nat → Nat} {d p c g : Nat} {mc mm mc2 mm2 : sh_X} {p2 c2 g2 ht : Nat} {x : Int32} (h : sp_To N K P V d p c g mc mm mc2 mm2 p2 c2 g2 ht x) : ¬ sf_54 (K p2) = true := h.2.2.2.2.2.2.2.2.2.2.2
theorem sp_To.mk {N : Nat} {K : Nat → Int32} {P V : Nat → Nat} {d p c g : Nat} {mc mm mc2 mm2 : sh_X} {p2 c2 g2 ht : Nat} {x : Int32} (pc : sp_Pc N K P V p2 c2 0 mc2) (pm : sh_Pm N K P V p2 g2 mm2) (cf : sh_Cf c 0 mc mc2) (mf : sh_Mf g mm mm2) (lp : p ≤ p2) (lc : 3 * c2 + 4 * p ≤ 3 * c + 4 * p2) (cc : c ≤ c2) (lg : g2 + p ≤ g + p2) (gg : g ≤ g2) (sl : sh_Sl mm2.I (sp_S N K V mm2.I mc2.I ht) g g2 d x c c2 p p2) (x2 : x ≠ -2) (en : ¬ sf_54 (K p2) = true) : sp_To N K P V d p c g mc mm mc2 mm2 p2 c2 g2 ht x := ⟨pc, pm, cf, mf, lp, lc, cc, lg, gg, sl, x2, en⟩
def sh_Tp (N : Nat) (K : Nat → Int32) (P V : Nat → Nat) (d p c g : Nat) (mc mm : sh_X) (qc : Option (Option Unit × sh_X)) (qm : Option (Int32 × sh_X)) : Prop :=
  (∃ z mcf mmf, z ≤ N ∧ qc = some (none, mcf) ∧ qm = some (-2, mmf) ∧ sh_bdc P z mc mcf ∧ sh_bdm P z mm mmf) ∨
  (∃ mc2 mm2 p2 c2 g2 ht x, qc = some (some (), mc2) ∧ qm = some (x, mm2) ∧ sp_To N K P V d p c g mc mm mc2 mm2 p2 c2 g2 ht x)
def sh_HS (N : Nat) (K : Nat → Int32) (P V : Nat → Nat) (d : Nat) : Prop := ∀ u v, 4 * (41 - d) + 2 ≤ u → 3 * (41 - d) + 1 ≤ v → ∀ p c g mc mm, sh_Qb N K P V p c g mc mm → sh_Tp N K P V d p c g mc mm ((sq_48 u).f53 (Int32.ofNat d) mc) ((sq_242 v).f264 (Int32.ofNat d) mm)
section
variable {N : Nat} {K : Nat → Int32} {P V : Nat → Nat}
theorem sh_bt_as {α β γ : Type} (x : Option (Option α × sh_X)) (f : α → sh_X → Option (Option β × sh_X)) (k : β → sh_X → Option (Option γ × sh_X)) : sh_bt (sh_bt x (fun m => ((none : Option β), m)) f) (fun m => ((none : Option γ), m)) k = sh_bt x (fun m => ((none : Option γ), m)) (fun r m => sh_bt (f r m) (fun m => ((none : Option γ), m)) k) := by
  rcases x with _ | ⟨_ | r, m⟩ <;> rfl
theorem sh_S_fr {ht g g2 d e c c2 p p2 : Nat} {A C A' C' : Nat → Nat → Int32} (h : sp_S N K V A C ht g g2 d e c c2 p p2) (hA : ∀ x, g ≤ x → x < g2 → ∀ y, 72 ≤ y → y ≤ 78 → A' y x = A y x) (hC : ∀ y, c ≤ y → y < c2 → C' 36 y = C 36 y ∧ C' 37 y = C 37 y ∧ C' 38 y = C 38 y) : sp_S N K V A' C' ht g g2 d e c c2 p p2 :=
  sh_S_mono ht ht g g2 g g2 d e c c2 p p2 h (Nat.le_refl _) (Nat.le_refl _) (Nat.le_refl _) (fun x x1 x2 => ⟨hA x x1 x2 72 (by omega) (by omega), hA x x1 x2 73 (by omega) (by omega), hA x x1 x2 74 (by omega) (by omega), hA x x1 x2 75 (by omega) (by omega), hA x x1 x2 76 (by omega) (by omega), hA x x1 x2 78 (by omega) (by omega)⟩) (fun x x1 x2 _ => hA x x1 x2 77 (by omega) (by omega)) hC
theorem sh_Sl_fr {ht ht2 g g2 lo hi d c c2 p p2 q q2 : Nat} {x : Int32} {A C A' C' : Nat → Nat → Int32} (h : sh_Sl A (sp_S N K V A C ht) g g2 d x c c2 p p2) (hh : ht ≤ ht2) (h1 : lo ≤ g) (h2 : g2 ≤ hi) (h3 : q ≤ p) (h4 : p2 ≤ q2) (hA : ∀ x, g ≤ x → x < g2 → ∀ y, 72 ≤ y → y ≤ 78 → A' y x = A y x) (hC : ∀ y, c ≤ y → y < c2 → C' 36 y = C 36 y ∧ C' 37 y = C 37 y ∧ C' 38 y = C 38 y) : sh_Sl A' (sp_S N K V A' C' ht2) lo hi d x c c2 q q2 := by
  refine sh_Sl_mono h h1 h2 h3 h4 (fun y y1 y2 => hA y y1 y2 77 (by omega) (by omega)) ?_
  intro l u e b cc s t z1 z2 z3 z4 z5 z6
  exact sh_S_mono ht ht2 l u l u d e b cc s t z6 hh (Nat.le_refl _) (Nat.le_refl _) (fun x x1 x2 => ⟨hA x (by omega) (by omega) 72 (by omega) (by omega), hA x (by omega) (by omega) 73 (by omega) (by omega), hA x (by omega) (by omega) 74 (by omega) (by omega), hA x (by omega) (by omega) 75 (by omega) (by omega), hA x (by omega) (by omega) 76 (by omega) (by omega), hA x (by omega) (by omega) 78 (by omega) (by omega)⟩) (fun x x1 x2 _ => hA x (by omega) (by omega) 77 (by omega) (by omega)) (fun y y1 y2 => hC y (by omega) (by omega))
/-- a block's statements, then their first is kept in the part g0, then '}' -/
theorem sh_pblk {d p c g g0 x u v : Nat} {mc mm : sh_X} {kc : sh_X → Option (Option Unit × sh_X)} {km : sh_X → Option (Int32 × sh_X)} (hT : sh_Txt N K P V) (hS : sh_HS N K P V d) (hu : 4 * (41 - d) + 2 ≤ u) (hv : 3 * (41 - d) + 1 ≤ v) (hb : sh_Qb N K P V p c g mc mm) (hg0 : g0 < g) (hx : x = 74 ∨ x = 75 ∨ x = 76) :
    (∃ z mcf mmf, z ≤ N ∧ (sh_bt ((sq_48 u).f53 (Int32.ofNat d) mc) (fun m => (none, m)) fun _ m12 => sh_bt (sf_48 125 m12) (fun m => (none, m)) fun _ m13 => kc m13) = some (none, mcf) ∧ (sh_bn ((sq_242 v).f264 (Int32.ofNat d) mm) fun r m => if sh_u2 m.I x g0 r x g0 = -2 then some (-1, ((m.T, sh_u2 m.I x g0 r, m.J, m.s) : sh_X)) else sh_bn (sf_262 125 (m.T, sh_u2 m.I x g0 r, m.J, m.s)) fun r2 m2 => if r2 = true then km m2 else some (-1, m2)) = some (-1, mmf) ∧ sh_bdc P z mc mcf ∧ sh_bdm P z mm mmf) ∨
    (∃ mc2 mm2 p2 c2 g2 ht y, (sh_bt ((sq_48 u).f53 (Int32.ofNat d) mc) (fun m => (none, m)) fun _ m12 => sh_bt (sf_48 125 m12) (fun m => (none, m)) fun _ m13 => kc m13) = kc mc2 ∧ (sh_bn ((sq_242 v).f264 (Int32.ofNat d) mm) fun r m => if sh_u2 m.I x g0 r x g0 = -2 then some (-1, ((m.T, sh_u2 m.I x g0 r, m.J, m.s) : sh_X)) else sh_bn (sf_262 125 (m.T, sh_u2 m.I x g0 r, m.J, m.s)) fun r2 m2 => if r2 = true then km m2 else some (-1, m2)) = km mm2 ∧
      p2 < N ∧ sp_Pc N K P V (p2 + 1) c2 0 mc2 ∧ sh_Pm N K P V (p2 + 1) g2 mm2 ∧ sh_Cf c 0 mc mc2 ∧ sh_Mf g0 mm mm2 ∧ p ≤ p2 ∧ 3 * c2 + 4 * p ≤ 3 * c + 4 * p2 ∧ c ≤ c2 ∧ g2 + p ≤ g + p2 ∧ g ≤ g2 ∧ sh_Sl mm2.I (sp_S N K V mm2.I mc2.I ht) g g2 d y c c2 p p2 ∧ mm2.I x g0 = y ∧ (∀ y, 72 ≤ y → y ≤ 78 → y ≠ x → mm2.I y g0 = mm.I y g0) ∧ (∀ z, g0 < z → z < g → ∀ y, 72 ≤ y → y ≤ 78 → mm2.I y z = mm.I y z)) := by
  have n4 := hb.pc.N4
  have bg := hb.bg
  rcases hS u v hu hv p c g mc mm hb with ⟨z, mcf, mmf, z1, z2, z3, z4, z5⟩ | ⟨mc2, mm2, p2, c2, g2, ht, y, z1, z2, hO⟩
  · left
    refine ⟨z, mcf, _, z1, by rw [z2]; rfl, by rw [z3, sh_bn_some, sh_u2_same, if_pos rfl], z4, z5.set (by omega)⟩
  · have lg := hO.lg
    have lc := hO.lc
    have lp := hO.lp
    have cc := hO.cc
    have gg := hO.gg
    have p2N := hO.pm.pN
    obtain ⟨f1, f2⟩ := sh_pset (e := g0) (x := x) (v := y) hO.pm (by omega)
    rw [z1, z2]
    rw [sh_bn_some, sh_u2_same, if_neg hO.x2]
    show (∃ z mcf mmf, _ ∧ (sh_bt (sf_48 125 mc2) _ _) = _ ∧ _) ∨ (∃ mc3 mm2 p2 c2 g2 ht y, (sh_bt (sf_48 125 mc2) _ _) = _ ∧ _)
    by_cases hk2 : K p2 = 125
    · right
      have hp2 : p2 < N := hT.lt p2N (by rw [hk2]; decide)
      obtain ⟨m3, i1, i3, i4⟩ := sh_48t hO.pc hk2 hp2
      obtain ⟨n3, j1, j3, j4⟩ := sh_262t f1 (Or.inr (Or.inr (by decide))) hk2 hp2
      have mfr : ∀ y', y' < g2 → ∀ z, 72 ≤ z → z ≤ 78 → n3.I z y' = sh_u2 mm2.I x g0 y z y' := fun y' hy z h1 h2 => (j4 g2).pt y' hy z h1 h2
      have mfo : ∀ y', y' ≠ g0 → y' < g2 → ∀ z, 72 ≤ z → z ≤ 78 → n3.I z y' = mm2.I z y' := by
        intro y' y1 y2 z h1 h2
        rw [mfr y' y2 z h1 h2]
        by_cases hz : z = x
        · subst hz; rw [sh_u2_idx y1]
        · rw [sh_u2_cell hz]
      refine ⟨m3, n3, p2, c2, g2, ht, y, by rw [i1]; rfl, by rw [j1, sh_bn_some, if_pos rfl], hp2, i3, j3, hO.cf.trans (i4 c 0) (Nat.le_refl _) (Nat.le_refl _), (hO.mf.less (show g0 ≤ g by omega)).trans (f2.trans (j4 g0) (Nat.le_refl _)) (Nat.le_refl _), lp, lc, cc, lg, gg, ?_, ?_, ?_, ?_⟩
      · exact sh_Sl_fr hO.sl (Nat.le_refl _) (Nat.le_refl _) (Nat.le_refl _) (Nat.le_refl _) (Nat.le_refl _) (fun x x1 x2 y y1 y2 => mfo x (by omega) x2 y y1 y2) (fun y y1 y2 => (i4 c2 0).cd y y2)
      · rw [mfr g0 (by omega) x (by omega) (by omega), sh_u2_same]
      · intro y' y1 y2 y3
        rw [mfr g0 (by omega) y' y1 y2, sh_u2_cell y3, hO.mf.pt g0 hg0 y' y1 y2]
      · intro z z1 z2 y' y1 y2
        rw [mfo z (by omega) (by omega) y' y1 y2, hO.mf.pt z z2 y' y1 y2]
    · left
      refine ⟨p2, _, _, p2N, by rw [sh_48f hO.pc hk2]; rfl, by rw [sh_262f f1 (Or.inr (Or.inr (by decide))) hk2, sh_bn_some, if_neg (by simp)], hO.pc.bad.of hO.cf, (f1.bad.of f2).of hO.mf⟩
end
