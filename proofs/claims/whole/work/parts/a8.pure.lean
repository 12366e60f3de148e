/-! PARSERS: whole programs -/
/-- the FNs so far: their words from pf, their code from cf, their parts from gf -/
def sh_Fs (N : Nat) (K : Nat → Int32) (V : Nat → Nat) (A C : Nat → Nat → Int32) (ht F : Nat) (pf cf gf : Nat → Nat) : Prop := ∀ f, f < F → pf f < pf (f + 1) ∧ cf f ≤ cf (f + 1) ∧ gf f ≤ gf (f + 1) ∧ sh_Fn N K V A C ht f (gf f) (gf (f + 1)) (cf f) (cf (f + 1)) (pf f) (pf (f + 1))
/-- a program -/
def sh_Prog (N : Nat) (K : Nat → Int32) (V : Nat → Nat) (A C : Nat → Nat → Int32) : Prop :=
  ∃ (F : Nat) (pf cf gf : Nat → Nat) (ht : Nat), pf 0 = 0 ∧ cf 0 = 0 ∧ gf 0 = 0 ∧ F < 256 ∧ A 66 31 = Int32.ofNat F ∧ C 28 12 = Int32.ofNat F ∧ C 28 11 = Int32.ofNat (cf F) ∧ sh_Fs N K V A C ht F pf cf gf ∧ sh_Pg N K V A C ht (cf F) (pf F) (gf F)
section
variable {N : Nat} {K : Nat → Int32} {P V : Nat → Nat}
theorem sh_Fs.up {A C : Nat → Nat → Int32} {ht F : Nat} {pf cf gf : Nat → Nat} (H : sh_Fs N K V A C ht F pf cf gf) : ∀ j, j ≤ F → pf 0 + j ≤ pf j ∧ pf j ≤ pf F ∧ cf 0 ≤ cf j ∧ cf j ≤ cf F ∧ gf 0 ≤ gf j ∧ gf j ≤ gf F := by
  have up : ∀ j, j ≤ F → pf 0 + j ≤ pf j ∧ cf 0 ≤ cf j ∧ gf 0 ≤ gf j := by
    intro j
    induction j with
    | zero => intro _; omega
    | succ j ihj => intro hj; obtain ⟨h1, h2, h3, _⟩ := H j (by omega); have := ihj (by omega); omega
  have dn : ∀ j, j ≤ F → pf (F - j) ≤ pf F ∧ cf (F - j) ≤ cf F ∧ gf (F - j) ≤ gf F := by
    intro j
    induction j with
    | zero => intro _; rw [Nat.sub_zero]; omega
    | succ j ihj =>
      intro hj
      obtain ⟨h1, h2, h3, _⟩ := H (F - (j + 1)) (by omega)
      rw [show F - (j + 1) + 1 = F - j by omega] at h1 h2 h3
      have := ihj (by omega)
      omega
  intro j hj
  have := dn (F - j) (by omega)
  rw [show F - (F - j) = j by omega] at this
  have := up j hj
  omega
theorem sh_Pg.mono {A C : Nat → Nat → Int32} {ht ht2 i p g : Nat} (H : sh_Pg N K V A C ht i p g) (hh : ht ≤ ht2) : sh_Pg N K V A C ht2 i p g := by
  obtain ⟨n, w, c2, g2, h1, h2, h3, h4, h5⟩ := H
  exact ⟨n, w, c2, g2, h1, h2, h3, sh_Sl_fr h4 hh (Nat.le_refl _) (Nat.le_refl _) (Nat.le_refl _) (Nat.le_refl _) (fun _ _ _ _ _ _ => rfl) (fun _ _ _ => ⟨rfl, rfl, rfl⟩), h5⟩
theorem sh_8lt {f F y : Nat} (h : f < F) (hy : y < 8 * f + 8) : y < 8 * F := by omega
/-- behind the FNs -/
theorem sh_pfnsE {F p c g ht : Nat} {pf cf gf : Nat → Nat} {mc0 mm0 mc mm : sh_X} (hT : sh_Txt N K P V) (hI : sh_Fi N K P V F p c g mc mm) (hcg : sh_Cg mc0 mc) (hmg : sh_Mg mm0 mm) (h36 : mm.I 66 36 = 0) (hFs : sh_Fs N K V mm.I mc.I ht F pf cf gf) (e1 : pf F = p) (e2 : cf F = c) (e3 : gf F = g) (e4 : pf 0 = 0) (e5 : cf 0 = 0) (e6 : gf 0 = 0) (h8 : ¬ K p = 8) :
    (∃ z mcf mmf, z ≤ N ∧ sf_43_19 (Int32.ofNat F) mc = some (none, mcf) ∧ sf_255_20 mm = some (false, mmf) ∧ sh_bDc P z mc0 mcf ∧ sh_bDm P z mm0 mmf) ∨
    (∃ (mc2 mm2 : sh_X), sf_43_19 (Int32.ofNat F) mc = some (some (), mc2) ∧ sf_255_20 mm = some (true, mm2) ∧ sh_Cg mc0 mc2 ∧ sh_Mg mm0 mm2 ∧ sh_Prog N K V mm2.I mc2.I) := by
  have n4 := hI.pc.N4
  have pN := hI.pc.pN
  have bc := hI.bc
  have bg := hI.bg
  have fp := hI.fp
  have hF : F < 256 := by
    have := sh_Pup hT (show p ≤ N by omega) (Nat.le_refl _)
    have := hT.PN
    omega
  obtain ⟨b1, b2⟩ := sh_cwr (x := 28) (i := 11) (v := mc.I 28 10) hI.pc (Or.inr ⟨rfl, by omega⟩)
  obtain ⟨mb, hmb⟩ : ∃ mb : sh_X, mb = (mc.T, sh_u2 mc.I 28 11 (mc.I 28 10), mc.J, mc.s) := ⟨_, rfl⟩
  rw [← hmb] at b1 b2
  have ec : sf_43_19 (Int32.ofNat F) mc = sf_43_61 (Int32.ofNat 0) mb := by
    unfold sf_43_19
    refine sh_wup ?_
    show sf_43_19s (Int32.ofNat F) mc = _
    unfold sf_43_19s sf_43_45
    rw [if_pos (sh_k4 (by omega)), sh_45 hI.pc, sh_bc_some, if_neg h8, ← hmb]
    rfl
  have em : sf_255_20 mm = sf_255_43 mm := by
    unfold sf_255_20
    refine sh_wup ?_
    show sf_255_20s mm = _
    unfold sf_255_20s
    rw [show sf_256 (mm.I 66 21) 7 mm = some (decide (K p = Int32.ofNat (4 + 4))) by rw [hI.pm.at_]; exact hI.pm.wq.wd pN (show 4 < 12 by omega), sh_bc_some, decide_eq_false (show ¬ K p = Int32.ofNat (4 + 4) from h8), if_neg (by simp)]
  rw [ec, em]
  rcases sh_pins (i := c) (g := g) (mc0 := mb) (mm0 := mm) hT N p c 0 (fun _ => p) mb mm (by omega) b1 hI.pm (by omega) (by omega) (sh_Hf.refl c g mb mm) h36 rfl (fun x hx => absurd hx (by omega)) rfl (by omega) with ⟨z, mcf, mmf, z1, z2, z3, z4, z5⟩ | ⟨mc2, mm2, ht2, z1, z2, z3, z4⟩
  · exact Or.inl ⟨z, mcf, mmf, z1, z2, z3, z4.of (hcg.trans b2), z5.of hmg⟩
  · refine Or.inr ⟨mc2, mm2, z1, z2, (hcg.trans b2).trans z3.cg, hmg.trans z3.mg, F, pf, cf, gf, ht + ht2, e4, e5, e6, hF, ?_, ?_, ?_, ?_, ?_⟩
    · rw [z3.m31]; exact hI.f31
    · rw [z3.c12, hmb]; show sh_u2 mc.I 28 11 (mc.I 28 10) 28 12 = _; rw [sh_u2_idx (by omega)]; exact hI.f12
    · rw [z3.c11, hmb, e2]; show sh_u2 mc.I 28 11 (mc.I 28 10) 28 11 = _; rw [sh_u2_same]; exact hI.pc.am
    · intro f hf
      obtain ⟨x1, x2, x3, x4⟩ := hFs f hf
      have u1 := hFs.up f (by omega)
      have u2 := hFs.up (f + 1) (by omega)
      have mbo : ∀ x y, x ≠ 28 → mb.I x y = mc.I x y := by intro x y hx; rw [hmb]; show sh_u2 mc.I 28 11 (mc.I 28 10) x y = _; rw [sh_u2_cell hx]
      refine ⟨x1, x2, x3, x4.mono (by omega) (fun x h1 h2 y _ _ => z3.mo x y h1 h2) (fun x h1 h2 y _ _ => ?_) (fun x h1 h2 y h3 h4 => z3.pt x (by omega) y h3 h4) (fun y h1 h2 => ?_)⟩
      · rw [z3.co x y h1 (by omega), mbo x y (by omega)]
      · have q := z3.cd y (by omega)
        rw [mbo 36 y (by omega), mbo 37 y (by omega), mbo 38 y (by omega)] at q
        exact q
    · have q := z4.mono (show ht2 ≤ ht + ht2 by omega)
      rw [e1, e2, e3]
      exact q
/-- the loop over the FNs, and all behind it -/
theorem sh_pfns {mc0 mm0 : sh_X} (hT : sh_Txt N K P V) :
    ∀ (z0 F p c g ht : Nat) (pf cf gf : Nat → Nat) (mc mm : sh_X), N ≤ p + z0 → sh_Fi N K P V F p c g mc mm → sh_Cg mc0 mc → sh_Mg mm0 mm → mm.I 66 36 = 0 → sh_Fs N K V mm.I mc.I ht F pf cf gf → pf F = p → cf F = c → gf F = g → pf 0 = 0 → cf 0 = 0 → gf 0 = 0 →
    (∃ z mcf mmf, z ≤ N ∧ sf_43_19 (Int32.ofNat F) mc = some (none, mcf) ∧ sf_255_20 mm = some (false, mmf) ∧ sh_bDc P z mc0 mcf ∧ sh_bDm P z mm0 mmf) ∨
    (∃ (mc2 mm2 : sh_X), sf_43_19 (Int32.ofNat F) mc = some (some (), mc2) ∧ sf_255_20 mm = some (true, mm2) ∧ sh_Cg mc0 mc2 ∧ sh_Mg mm0 mm2 ∧ sh_Prog N K V mm2.I mc2.I) := by
  intro z0
  induction z0 with
  | zero =>
    intro F p c g ht pf cf gf mc mm hz hI hcg hmg h36 hFs e1 e2 e3 e4 e5 e6
    have hp : p = N := by have := hI.pc.pN; omega
    exact (sh_pfnsE hT hI hcg hmg h36 hFs e1 e2 e3 e4 e5 e6 (by rw [hp, hT.KN]; decide))
  | succ z0 ih =>
    intro F p c g ht pf cf gf mc mm hz hI hcg hmg h36 hFs e1 e2 e3 e4 e5 e6
    by_cases h8 : K p = 8
    · have n4 := hI.pc.N4
      have pN := hI.pc.pN
      have fp := hI.fp
      have hF : F < 256 := by
        have := sh_Pup hT (show p ≤ N by omega) (Nat.le_refl _)
        have := hT.PN
        omega
      have ec : sf_43_19s (Int32.ofNat F) mc = sh_bt (sf_47 mc) (fun m => .inr ((none, m))) fun _ m12 => some (.inl (Int32.ofNat (F + 1), m12)) := by
        unfold sf_43_19s
        rw [if_pos (sh_k4 (by omega)), sh_45 hI.pc, sh_bc_some, if_pos h8, sh_nI1]
      have em : sf_255_20s mm = sh_bn (sf_257 mm) fun r2 m12 => if r2 = true then some (.inl m12) else some (.inr ((false, m12))) := by
        unfold sf_255_20s
        rw [show sf_256 (mm.I 66 21) 7 mm = some (decide (K p = Int32.ofNat (4 + 4))) by rw [hI.pm.at_]; exact hI.pm.wq.wd pN (show 4 < 12 by omega), sh_bc_some, decide_eq_true (show K p = Int32.ofNat (4 + 4) from h8), if_pos rfl]
      rcases sh_pfn hT hI h8 with ⟨z, mcf, mmf, z1, z2, z3, z4, z5⟩ | ⟨mc2, mm2, p2, c2, g2, ht2, z1, z2, z3, z4, z5, z6, z7, z8⟩
      · refine Or.inl ⟨z, mcf, mmf, z1, ?_, ?_, z4.of hcg, z5.of hmg⟩
        · unfold sf_43_19
          refine sh_wend ?_
          show sf_43_19s (Int32.ofNat F) mc = _
          rw [ec, z2]
          rfl
        · unfold sf_255_20
          refine sh_wend ?_
          show sf_255_20s mm = _
          rw [em, z3, sh_bn_some, if_neg (by simp)]
      · have stc : sf_43_19 (Int32.ofNat F) mc = sf_43_19 (Int32.ofNat (F + 1)) mc2 := by
          unfold sf_43_19
          refine sh_wstep ?_
          show sf_43_19s (Int32.ofNat F) mc = _
          rw [ec, z1]
          rfl
        have stm : sf_255_20 mm = sf_255_20 mm2 := by
          unfold sf_255_20
          refine sh_wstep ?_
          show sf_255_20s mm = _
          rw [em, z2, sh_bn_some, if_pos rfl]
        rw [stc, stm]
        have hFs2 : sh_Fs N K V mm2.I mc2.I (ht + ht2) (F + 1) (fun j => if j = F + 1 then p2 else pf j) (fun j => if j = F + 1 then c2 else cf j) (fun j => if j = F + 1 then g2 else gf j) := by
          intro f hf
          by_cases hfF : f = F
          · subst hfF
            simp only [if_neg (show ¬ f = f + 1 by omega), if_true]
            rw [e1, e2, e3]
            refine ⟨z6, z7, z8, z5.mono (by omega) (fun _ _ _ _ _ _ => rfl) (fun _ _ _ _ _ _ => rfl) (fun _ _ _ _ _ _ => rfl) (fun _ _ _ => ⟨rfl, rfl, rfl⟩)⟩
          · obtain ⟨x1, x2, x3, x4⟩ := hFs f (by omega)
            have u1 := hFs.up f (by omega)
            have u2 := hFs.up (f + 1) (by omega)
            simp only [if_neg (show ¬ f = F + 1 by omega), if_neg (show ¬ f + 1 = F + 1 by omega)]
            refine ⟨x1, x2, x3, x4.mono (by omega) (fun x h1 h2 y h3 h4 => ?_) (fun x h1 h2 y h3 h4 => ?_) (fun x h1 h2 y h3 h4 => z4.pt x (by omega) y h3 h4) (fun y h1 h2 => z4.cd y (by omega))⟩
            · by_cases hx : 81 ≤ x ∧ x ≤ 83
              · exact z4.ml x y hx.1 hx.2 (sh_8lt (show f < F by omega) h3)
              · exact z4.mo x y h1 h2 (by omega) (by have := h4 (by omega); omega)
            · by_cases hx : x = 34
              · subst hx; exact z4.cl y (sh_8lt (show f < F by omega) h3)
              · exact z4.co x y h1 (by omega) (by have := h4 hx; omega)
        exact ih (F + 1) p2 c2 g2 (ht + ht2) _ _ _ mc2 mm2 (by omega) z3 (hcg.trans z4.cg) (hmg.trans z4.mg) (by rw [z4.m36]; exact h36) hFs2 (by simp only [if_true]) (by simp only [if_true]) (by simp only [if_true]) (by simp only [if_neg (show ¬ 0 = F + 1 by omega)]; exact e4) (by simp only [if_neg (show ¬ 0 = F + 1 by omega)]; exact e5) (by simp only [if_neg (show ¬ 0 = F + 1 by omega)]; exact e6)
    · exact sh_pfnsE hT hI hcg hmg h36 hFs e1 e2 e3 e4 e5 e6 h8
/-- parse: both read the same program, or both fail at the same word -/
theorem sh_parse {mc mm : sh_X} (hT : sh_Txt N K P V) (hc : sh_Wc N K P V mc) (hm : sh_Wq N K P V mm) (ht : mc.T.length < 900000) :
    (∃ z mcf mmf, z ≤ N ∧ sf_43 mc = some (none, mcf) ∧ sf_255 mm = some (false, mmf) ∧ sh_bDc P z mc mcf ∧ sh_bDm P z mm mmf) ∨
    (∃ (mc2 mm2 : sh_X), sf_43 mc = some (some (), mc2) ∧ sf_255 mm = some (true, mm2) ∧ sh_Cg mc mc2 ∧ sh_Mg mm mm2 ∧ sh_Prog N K V mm2.I mc2.I) := by
  obtain ⟨ma, hma⟩ : ∃ ma : sh_X, ma = (mc.T, sh_u2 (sh_u2 (sh_u2 (sh_u2 (sh_u2 mc.I 28 10 0) 28 11 0) 28 12 0) 39 3 0) 39 4 0, mc.J, mc.s) := ⟨_, rfl⟩
  obtain ⟨na, hna⟩ : ∃ na : sh_X, na = (mm.T, sh_u2 (sh_u2 (sh_u2 (sh_u2 mm.I 66 20 0) 66 21 0) 66 31 0) 66 36 0, mm.J, mm.s) := ⟨_, rfl⟩
  have cga : sh_Cg mc ma := by
    rw [hma]
    refine sh_Cg.mk rfl rfl rfl (fun x hx => ?_)
    simp only [sh_X.I, sh_u2_cell (show x ≠ 28 by omega), sh_u2_cell (show x ≠ 39 by omega)]
  have mga : sh_Mg mm na := by
    rw [hna]
    refine sh_Mg.mk rfl rfl rfl (by simp [sh_X.I, sh_u2]) (fun x hx _ => ?_) (fun j _ _ h20 h21 h31 h36 _ _ _ => ?_)
    · simp only [sh_X.I, sh_u2_cell hx]
    · simp only [sh_X.I, sh_u2_idx h20, sh_u2_idx h21, sh_u2_idx h31, sh_u2_idx h36]
  have pc : sp_Pc N K P V 0 0 0 ma := by
    refine sp_Pc.mk (hc.same (by rw [cga.I 2 (by omega)]) (cga.I 3 (by omega)) (cga.I 4 (by omega)) (by rw [cga.J])) ?_ (by omega) hT.N4 ?_ ?_ (by rw [cga.T]; exact ht)
    · rw [hma]; show sh_u2 (sh_u2 (sh_u2 (sh_u2 (sh_u2 mc.I 28 10 0) 28 11 0) 28 12 0) 39 3 0) 39 4 0 39 4 = _; rw [sh_u2_same]; rfl
    · rw [hma]; simp [sh_X.I, sh_u2]
    · rw [hma]; simp [sh_X.I, sh_u2]
  have pm : sh_Pm N K P V 0 0 na := by
    refine sh_Pm.mk (hm.same (mga.I 67 (by omega) (by omega)) (mga.I 68 (by omega) (by omega)) (mga.I 69 (by omega) (by omega)) (mga.I 70 (by omega) (by omega))) ?_ (by omega) ?_
    · rw [hna]; simp [sh_X.I, sh_u2]
    · rw [hna]; simp [sh_X.I, sh_u2]
  have hI : sh_Fi N K P V 0 0 0 0 ma na := sh_Fi.mk pc pm (by rw [hma]; simp [sh_X.I, sh_u2]) (by rw [hna]; simp [sh_X.I, sh_u2]) (by omega) (by omega) (by omega)
  have ec : sf_43 mc = sf_43_19 (Int32.ofNat 0) ma := by
    unfold sf_43 sf_44
    rw [sh_bn_some, hma]
    rfl
  have em : sf_255 mm = sf_255_20 na := by
    unfold sf_255
    rw [← hna]
  rw [ec, em]
  exact sh_pfns hT N 0 0 0 0 0 (fun _ => 0) (fun _ => 0) (fun _ => 0) ma na (by omega) hI cga mga (by rw [hna]; simp [sh_X.I, sh_u2]) (fun f hf => absurd hf (by omega)) rfl rfl rfl rfl rfl rfl
end
