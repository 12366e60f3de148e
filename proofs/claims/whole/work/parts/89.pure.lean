/-! PARSERS: operands -/
section
variable {N : Nat} {K : Nat → Int32} {P V : Nat → Nat}
/-- primary -/
theorem sh_prim {d p c w g u v : Nat} {mc mm : sh_X} (hT : sh_Txt N K P V) (hX : sh_HX N K P V (d + 1)) (hb : sh_Pb N K P V p c w g mc mm) (hd : d ≤ 40) (hw : w ≤ 10 * d + 10) (hu : 5 * (40 - d) + 2 ≤ u) (hv : 16 * (40 - d) + 13 ≤ v) : sh_Ep N K P V d p c w g mc mm (sf_61 (sq_44 (u + 1)) (Int32.ofNat d) mc) (sf_272 (sq_240 (v + 1)) (Int32.ofNat d) mm) := by
  by_cases h2 : K p = 2 ∨ K p = 7 ∨ K p = 15
  · exact sh_pleaf hT hb hd h2
  by_cases h1 : K p = 1
  · by_cases h40 : K (p + 1) = 40
    · exact sh_pcall hT hX hb hd hw hu hv h1 h40
    · exact sh_pname hT hb hd h1 h40
  by_cases h3 : K p = 3
  · exact sh_pcast hT hX hb hd hw hu (by omega) h3
  by_cases h40 : K p = 40
  · exact sh_pparen hT hX hb hd hw (by omega) (by omega) h40
  by_cases h91 : K p = 91
  · exact sh_prow hT hX hb hd hw hu hv h91
  exact sh_pbad hb h1 (fun q => h2 (Or.inl q)) h3 (fun q => h2 (Or.inr (Or.inl q))) (fun q => h2 (Or.inr (Or.inr q))) h40 h91
/-- the indexes behind -/
theorem sh_pidx {d p0 c0 w g0 u v : Nat} {mc0 mm0 : sh_X} (hT : sh_Txt N K P V) (hX : sh_HX N K P V (d + 1)) (hb0 : sh_Pb N K P V p0 c0 w g0 mc0 mm0) (hd : d ≤ 40) (hw : w ≤ 10 * d + 10) (hu : 5 * (40 - d) + 2 ≤ u) (hv : 16 * (40 - d) + 13 ≤ v) :
    ∀ (f p c g e ht k : Nat) (mc mm : sh_X), N ≤ p + f → sh_Ok N K P V d p0 c0 w g0 mc0 mm0 mc mm p c g e ht → k < p → sh_Ep N K P V d p0 c0 w g0 mc0 mm0 (sf_59_65 (sq_44 (u + 1)) (Int32.ofNat d) (Int32.ofNat k) mc) (sf_271_6 (sq_240 v) (Int32.ofNat d) (Int32.ofNat e) mm) := by
  intro f
  induction f with
  | zero =>
    intro p c g e ht k mc mm hf hO hk
    have n4 := hO.pc.N4
    have pN := hO.pc.pN
    have re := sh_R_e hO.r
    have lg := hO.lg
    have bg := hb0.bg
    obtain ⟨k1, k2, k3⟩ := sh_mok hO.pm
    have h91 : ¬ K p = 91 := by
      rw [show p = N by omega, hT.KN]; decide
    refine Or.inr ⟨mc, mm, p, c, g, e, ht, ?_, ?_, hO⟩
    · unfold sf_59_65
      refine sh_wend ?_
      show sf_59_65s (sq_44 (u + 1)) (Int32.ofNat d) (Int32.ofNat k) mc = _
      unfold sf_59_65s
      rw [if_pos (sh_k4 (by omega)), sh_45 hO.pc, sh_bc_some, if_neg h91]
    · unfold sf_271_6
      refine sh_wend ?_
      show sf_271_6s (sq_240 v) (Int32.ofNat d) (Int32.ofNat e) mm = _
      unfold sf_271_6s
      rw [if_neg (sh_nn (by omega)), if_pos k1, k2, if_neg (fun q => h91 ((hO.pm.wq.tk pN (Or.inr (Or.inr (by decide)))).mp q))]
  | succ f ih =>
    intro p c g e ht k mc mm hf hO hk
    have n4 := hO.pc.N4
    have pN := hO.pc.pN
    have re := sh_R_e hO.r
    have lg := hO.lg
    have lc := hO.lc
    have lp := hO.lp
    have bg := hb0.bg
    have bc := hb0.bc
    have cc := hO.cc
    obtain ⟨k1, k2, k3⟩ := sh_mok hO.pm
    by_cases h91 : K p = 91
    · have hp : p < N := hT.lt pN (by rw [h91]; decide)
      obtain ⟨m1, a1, a2, a3, a4, a5, a6⟩ := sh_56 (a := 28) (x := mc.I 39 4) (y := 0) hO.pc (by omega)
      obtain ⟨m2, b1, b2, b3⟩ := sh_48t a2 h91 hp
      obtain ⟨mA, mF⟩ := sh_madv hO.pm hp
      have hb2 : sh_Pb N K P V (p + 1) (c + 1) w g m2 _ := sh_Pb.mk b2 mA (by omega) (by omega)
      have cF2 : sh_Cf c w mc m2 := (a3 w).trans (b3 c w) (Nat.le_refl _) (Nat.le_refl _)
      have ec : sf_59_65s (sq_44 (u + 1)) (Int32.ofNat d) (Int32.ofNat k) mc = sh_bt (sh_bt ((sq_44 u).f58 (Int32.ofNat (d + 1)) m2) (fun m => (none, m)) fun _ m12 => sh_bn (sf_56 29 (m2.I 39 4) 0 m12) fun r3 m13 => sh_bt (sf_48 93 m13) (fun m => (none, m)) fun _ m14 => some ((some (), m14))) (fun m => .inr ((none, m))) fun _ m13 => sh_bn (sf_56 30 (mc.I 39 4) 0 m13) fun r4 m14 => some (.inl (Int32.ofNat k + 1, m14)) := by
        unfold sf_59_65s
        rw [if_pos (sh_k4 (by omega)), sh_45 hO.pc, sh_bc_some, if_pos h91, a1, sh_bn_some]
        show sh_bt (sf_68 (sq_44 u) (Int32.ofNat d) m1) _ _ = _
        unfold sf_68
        rw [b1, sh_nI1]
        rfl
      have em : sf_271_6s (sq_240 v) (Int32.ofNat d) (Int32.ofNat e) mm = sh_bn ((sq_240 v).f267 (Int32.ofNat (d + 1)) (mm.T, sh_u2 mm.I 66 21 (mm.I 66 21 + 1), mm.J, mm.s)) fun r1 m11 =>
        if r1 < 0 then
          some (.inr (((-1), m11)))
        else
          sh_bn (sf_262 93 m11) fun r2 m12 =>
          if r2 = true then
            sh_bn (sf_266 8 (mm.I 66 21) (Int32.ofNat e) r1 m12) fun r3 m13 =>
            if sh_okb (Int32.ofNat e) 9000 = true then
              if sh_okb r3 9000 = true then
                some (.inl (r3, ⟨m13.T, sh_u2 m13.I 78 (Int32.toNatClampNeg r3) (m13.I 78 (Int32.toNatClampNeg (Int32.ofNat e))), m13.J, m13.s⟩))
              else none
            else none
          else
            some (.inr (((-1), m12))) := by
        unfold sf_271_6s
        rw [if_neg (sh_nn (by omega)), if_pos k1, k2, if_pos ((hO.pm.wq.tk pN (Or.inr (Or.inr (by decide)))).mpr h91), sh_nI1]
      rcases hX u v (by omega) (by omega) (p + 1) (c + 1) w g m2 _ hb2 (by omega) with ⟨z, mcf, mmf, z1, z2, z3, z4, z5⟩ | ⟨mc2, mm2, p2, c2, g2, i, ht2, z1, z2, hI⟩
      · refine Or.inl ⟨z, mcf, mmf, z1, ?_, ?_, (z4.of cF2).of hO.cf, (z5.of (mF 0)).of hO.mf⟩
        · unfold sf_59_65
          refine sh_wend ?_
          show sf_59_65s (sq_44 (u + 1)) (Int32.ofNat d) (Int32.ofNat k) mc = _
          rw [ec, z2]
          rfl
        · unfold sf_271_6
          refine sh_wend ?_
          show sf_271_6s (sq_240 v) (Int32.ofNat d) (Int32.ofNat e) mm = _
          rw [em, z3, sh_bn_some, if_pos (by decide)]
      · have ri := sh_R_e hI.r
        have ilg := hI.lg
        have ilc := hI.lc
        have ilp := hI.lp
        have icc := hI.cc
        have p2N := hI.pc.pN
        obtain ⟨m3, d1, d2, d3, d4, d5, d6⟩ := sh_56 (a := 29) (x := m2.I 39 4) (y := 0) hI.pc (by omega)
        by_cases h93 : K p2 = 93
        · have hp2 : p2 < N := hT.lt p2N (by rw [h93]; decide)
          obtain ⟨m4, i1, i3, i4⟩ := sh_48t d2 h93 hp2
          obtain ⟨m5, f1, f2, f3, f4, f5, f6⟩ := sh_56 (a := 30) (x := mc.I 39 4) (y := 0) i3 (by omega)
          obtain ⟨n3, j1, j3, j4⟩ := sh_262t hI.pm (Or.inr (Or.inr (by decide))) h93 hp2
          obtain ⟨n5, e1, e2, e3, e4, e5, e6, e7, e8, e9, e10⟩ := sh_266 (k := 8) (t := mm.I 66 21) (a := Int32.ofNat e) (b := Int32.ofNat i) j3 (by omega)
          obtain ⟨s1, s2⟩ := sh_pset (e := g2) (x := 78) (v := n5.I 78 e) e2 (by omega)
          -- the old parts
          have mold : ∀ y, y < g2 → ∀ x, 72 ≤ x → x ≤ 78 → sh_u2 n5.I 78 g2 (n5.I 78 e) x y = mm2.I x y := by
            intro y y1 x h1 h2
            have q : n5.I x y = mm2.I x y := (e3.pt y y1 x h1 h2).trans ((j4 g2).pt y y1 x h1 h2)
            by_cases hx : x = 78
            · subst hx; rw [sh_u2_idx (by omega)]; exact q
            · rw [sh_u2_cell hx]; exact q
          have mold0 : ∀ y, y < g → ∀ x, 72 ≤ x → x ≤ 78 → sh_u2 n5.I 78 g2 (n5.I 78 e) x y = mm.I x y := by
            intro y y1 x h1 h2
            rw [mold y (by omega) x h1 h2, hI.mf.pt y y1 x h1 h2, (mF g).pt y y1 x h1 h2]
          have mnew : ∀ x, 72 ≤ x → x ≤ 78 → x ≠ 78 → sh_u2 n5.I 78 g2 (n5.I 78 e) x g2 = n5.I x g2 := by
            intro x h1 h2 h3
            rw [sh_u2_cell h3]
          have hOk : sh_Ok N K P V d p0 c0 w g0 mc0 mm0 m5 (n5.T, sh_u2 n5.I 78 g2 (n5.I 78 e), n5.J, n5.s) (p2 + 1) (c2 + 2) (g2 + 1) g2 (ht + ht2 + 1) := by
            refine sh_Ok.mk f2 s1 ?_ ?_ (by omega) (by omega) (by omega) (by omega) ?_ ?_ ?_
            · exact hO.cf.trans (cF2.trans ((hI.cf.trans (d3 w) (by omega) (Nat.le_refl _)).trans ((i4 (c + 1) w).trans (f3 w) (by omega) (Nat.le_refl _)) (Nat.le_refl _) (Nat.le_refl _)) (by omega) (Nat.le_refl _)) (by omega) (Nat.le_refl _)
            · exact hO.mf.trans (((mF g0).trans (hI.mf.less (show g0 ≤ g by omega)) (Nat.le_refl _)).trans (((j4 g0).trans e3 (by omega)).trans s2 (by omega)) (Nat.le_refl _)) (Nat.le_refl _)
            · have codeold : ∀ y, y < c2 → m5.I 36 y = mc2.I 36 y ∧ m5.I 37 y = mc2.I 37 y ∧ m5.I 38 y = mc2.I 38 y := by
                intro y y1
                have q1 := (f3 w).cd y (by omega)
                have q2 := (i4 (c2 + 1) w).cd y (by omega)
                have q3 := (d3 w).cd y y1
                exact ⟨q1.1.trans (q2.1.trans q3.1), q1.2.1.trans (q2.2.1.trans q3.2.1), q1.2.2.trans (q2.2.2.trans q3.2.2)⟩
              have codeold0 : ∀ y, y < c → m5.I 36 y = mc.I 36 y ∧ m5.I 37 y = mc.I 37 y ∧ m5.I 38 y = mc.I 38 y := by
                intro y y1
                have q1 := codeold y (by omega)
                have q2 := hI.cf.cd y (by omega)
                have q3 := cF2.cd y y1
                exact ⟨q1.1.trans (q2.1.trans q3.1), q1.2.1.trans (q2.2.1.trans q3.2.1), q1.2.2.trans (q2.2.2.trans q3.2.2)⟩
              have qn := codeold c (by omega)
              have qn2 := hI.cf.cd c (by omega)
              have qn3 := (b3 (c + 1) w).cd c (by omega)
              have ql := (f3 w).cd c2 (by omega)
              have ql2 := (i4 (c2 + 1) w).cd c2 (by omega)
              unfold sp_R
              refine ⟨⟨by omega, by omega, hd, by omega, by omega⟩, p, ?_, by omega, by omega, Or.inr (Or.inr (Or.inr (Or.inl ⟨e, i, g0, g, g, g2, c, ⟨by omega, by omega, by omega, by omega, by omega, by omega⟩, ?_, ?_, ?_, ?_, ?_, ?_, ?_, ?_, ?_, ?_, by omega, by omega, ?_, ?_⟩)))⟩
              · exact ((mnew 73 (by omega) (by omega) (by omega)).trans e5).trans hO.pm.at_
              · exact (mnew 74 (by omega) (by omega) (by omega)).trans e6
              · exact (mnew 75 (by omega) (by omega) (by omega)).trans e7
              · exact (mnew 72 (by omega) (by omega) (by omega)).trans e4
              · exact (qn.1.trans (qn2.1.trans qn3.1)).trans a4
              · exact ((qn.2.1.trans (qn2.2.1.trans qn3.2.1)).trans a5).trans hO.pc.at_
              · rw [show c2 + 2 - 2 = c2 by omega]
                exact (ql.1.trans ql2.1).trans d4
              · rw [show c2 + 2 - 2 = c2 by omega]
                refine ((ql.2.1.trans ql2.2.1).trans d5).trans ?_
                show _ = sh_u2 n5.I 78 g2 (n5.I 78 e) 78 i
                rw [mold i ri.2.1 78 (by omega) (by omega), hI.fi]
                exact b2.at_
              · show sh_u2 n5.I 78 g2 (n5.I 78 e) 78 i = _
                rw [mold i ri.2.1 78 (by omega) (by omega)]
                exact hI.fi
              · rw [show c2 + 2 - 1 = c2 + 1 by omega]; exact f4
              · rw [show c2 + 2 - 1 = c2 + 1 by omega]; exact f5.trans hO.pc.at_
              · refine sh_R_mono ht (ht + ht2) g0 g g0 g d d e c0 c p0 p p0 p hO.r (by omega) (Nat.le_refl _) (Nat.le_refl _) (Nat.le_refl _) (Nat.le_refl _) (Nat.le_refl _) (by omega) ?_ ?_ ?_
                · intro x x1 x2
                  exact ⟨mold0 x x2 72 (by omega) (by omega), mold0 x x2 73 (by omega) (by omega), mold0 x x2 74 (by omega) (by omega), mold0 x x2 75 (by omega) (by omega)⟩
                · intro x x1 x2 x3
                  exact ⟨mold0 x x2 77 (by omega) (by omega), mold0 x x2 78 (by omega) (by omega)⟩
                · intro y y1 y2
                  exact codeold0 y y2
              · rw [show c2 + 2 - 2 = c2 by omega, show p2 + 1 - 1 = p2 by omega]
                refine sh_R_mono ht2 (ht + ht2) g g2 g g2 (d + 1) (d + 1) i (c + 1) c2 (p + 1) p2 (p + 1) p2 hI.r (by omega) (Nat.le_refl _) (Nat.le_refl _) (Nat.le_refl _) (Nat.le_refl _) (Nat.le_refl _) (by omega) ?_ ?_ ?_
                · intro x x1 x2
                  exact ⟨mold x x2 72 (by omega) (by omega), mold x x2 73 (by omega) (by omega), mold x x2 74 (by omega) (by omega), mold x x2 75 (by omega) (by omega)⟩
                · intro x x1 x2 x3
                  exact ⟨mold x x2 77 (by omega) (by omega), mold x x2 78 (by omega) (by omega)⟩
                · intro y y1 y2
                  exact codeold y y2
            · show sh_u2 n5.I 78 g2 (n5.I 78 e) 78 g2 = _
              rw [sh_u2_same]
              have q := mold0 e re.2.1 78 (by omega) (by omega)
              rw [sh_u2_idx (by omega)] at q
              rw [q]
              exact hO.fi
            · exact (mnew 77 (by omega) (by omega) (by omega)).trans e9
          have stc : sf_59_65 (sq_44 (u + 1)) (Int32.ofNat d) (Int32.ofNat k) mc = sf_59_65 (sq_44 (u + 1)) (Int32.ofNat d) (Int32.ofNat (k + 1)) m5 := by
            unfold sf_59_65
            refine sh_wstep ?_
            show sf_59_65s (sq_44 (u + 1)) (Int32.ofNat d) (Int32.ofNat k) mc = _
            rw [ec, z1]
            show sh_bt (sh_bn (sf_56 29 (m2.I 39 4) 0 mc2) _) _ _ = _
            rw [d1, sh_bn_some, i1]
            show sh_bn (sf_56 30 (mc.I 39 4) 0 m4) _ = _
            rw [f1, sh_bn_some, sh_nI1]
          have stm : sf_271_6 (sq_240 v) (Int32.ofNat d) (Int32.ofNat e) mm = sf_271_6 (sq_240 v) (Int32.ofNat d) (Int32.ofNat g2) (n5.T, sh_u2 n5.I 78 g2 (n5.I 78 e), n5.J, n5.s) := by
            unfold sf_271_6
            refine sh_wstep ?_
            show sf_271_6s (sq_240 v) (Int32.ofNat d) (Int32.ofNat e) mm = _
            rw [em, z2, sh_bn_some, if_neg (sh_nn (by omega)), j1, sh_bn_some, if_pos rfl, e1, sh_bn_some, if_pos ((sh_okn (by omega)).mpr (by omega)), if_pos ((sh_okn (by omega)).mpr (by omega)), sh_nIc (by omega), sh_nIc (by omega)]
          rw [stc, stm]
          exact ih (p2 + 1) (c2 + 2) (g2 + 1) g2 (ht + ht2 + 1) (k + 1) _ _ (by omega) hOk (by omega)
        · refine Or.inl ⟨p2, _, _, p2N, ?_, ?_, (((d2.bad.of (d3 w)).of hI.cf).of cF2).of hO.cf, ((hI.pm.bad.of hI.mf).of (mF 0)).of hO.mf⟩
          · unfold sf_59_65
            refine sh_wend ?_
            show sf_59_65s (sq_44 (u + 1)) (Int32.ofNat d) (Int32.ofNat k) mc = _
            rw [ec, z1]
            show sh_bt (sh_bn (sf_56 29 (m2.I 39 4) 0 mc2) _) _ _ = _
            rw [d1, sh_bn_some, sh_48f d2 h93]
            rfl
          · unfold sf_271_6
            refine sh_wend ?_
            show sf_271_6s (sq_240 v) (Int32.ofNat d) (Int32.ofNat e) mm = _
            rw [em, z2, sh_bn_some, if_neg (sh_nn (by omega)), sh_262f hI.pm (Or.inr (Or.inr (by decide))) h93, sh_bn_some, if_neg (by simp)]
    · refine Or.inr ⟨mc, mm, p, c, g, e, ht, ?_, ?_, hO⟩
      · unfold sf_59_65
        refine sh_wend ?_
        show sf_59_65s (sq_44 (u + 1)) (Int32.ofNat d) (Int32.ofNat k) mc = _
        unfold sf_59_65s
        rw [if_pos (sh_k4 (by omega)), sh_45 hO.pc, sh_bc_some, if_neg h91]
      · unfold sf_271_6
        refine sh_wend ?_
        show sf_271_6s (sq_240 v) (Int32.ofNat d) (Int32.ofNat e) mm = _
        unfold sf_271_6s
        rw [if_neg (sh_nn (by omega)), if_pos k1, k2, if_neg (fun q => h91 ((hO.pm.wq.tk pN (Or.inr (Or.inr (by decide)))).mp q))]
end
