/-! PARSERS: casts -/
section
variable {N : Nat} {K : Nat → Int32} {P V : Nat → Nat}
theorem sh_Mf.set {m : sh_X} {x e : Nat} {v : Int32} (hx : 72 ≤ x ∧ x ≤ 78) : sh_Mf e m (m.T, sh_u2 m.I x e v, m.J, m.s) := by
  refine sh_Mf.mk rfl rfl rfl (by simp only [sh_X.I, sh_u2_cell (show (66 : Nat) ≠ x by omega)]) ?_ ?_ ?_
  · intro z h1 h2
    simp only [sh_X.I, sh_u2_cell (show z ≠ x by omega)]
  · intro j _ _ _ _ _ _
    simp only [sh_X.I, sh_u2_cell (show (66 : Nat) ≠ x by omega)]
  · intro y hy z h1 h2
    simp only [sh_X.I]
    by_cases hz : z = x
    · subst hz; rw [sh_u2_idx (by omega)]
    · rw [sh_u2_cell hz]
theorem sh_bdm.set {z x e : Nat} {v : Int32} {m mf : sh_X} (h : sh_bdm P z m mf) (hx : 72 ≤ x ∧ x ≤ 78) : sh_bdm P z m (mf.T, sh_u2 mf.I x e v, mf.J, mf.s) := by
  refine ⟨h.1.trans ((sh_Mf.set hx).less (Nat.zero_le e)).x (Nat.le_refl _), ?_, ?_⟩
  · simp only [sh_X.I, sh_u2_cell (show (66 : Nat) ≠ x by omega)]
    exact h.2.1
  · simp only [sh_X.I, sh_u2_cell (show (66 : Nat) ≠ x by omega)]
    exact h.2.2
theorem sh_66 {m : sh_X} {i : Nat} (h : sh_Wc N K P V m) (hN : N ≤ 4000) (hi : i ≤ N) (hk : K i = 1 ∨ K i = 2 ∨ K i = 3) : sf_66 (Int32.ofNat i) m = some (Int64.ofNat (V i)) := by
  unfold sf_66
  rw [if_neg (sh_nI0 (by omega)), h.am, if_pos ((sh_nIlt (by omega) (by omega)).mpr (by omega)), if_pos ((sh_okn (by omega)).mpr (by omega)), sh_nIc (by omega), h.nu i hi hk]
theorem sh_l32 {a : Nat} (h : a < 2147483648) : Int64.toInt32 (Int64.ofNat a) = Int32.ofNat a := by
  rw [← sh_i32l h, Int32.toInt32_toInt64]
theorem sh_pcast {d p c w g u v : Nat} {mc mm : sh_X} (hT : sh_Txt N K P V) (hX : sh_HX N K P V (d + 1)) (hb : sh_Pb N K P V p c w g mc mm) (hd : d ≤ 40) (hw : w ≤ 10 * d + 10) (hu : 5 * (40 - d) + 2 ≤ u) (hv : 16 * (40 - d) + 13 ≤ v) (hK : K p = 3) : sh_Ep N K P V d p c w g mc mm (sf_61 (sq_44 (u + 1)) (Int32.ofNat d) mc) (sf_272 (sq_240 v) (Int32.ofNat d) mm) := by
  have n4 := hb.pc.N4
  have bc := hb.bc
  have bg := hb.bg
  have pN := hb.pc.pN
  have hp : p < N := hT.lt pN (by rw [hK]; decide)
  have mF := (sh_madv hb.pm hp).2
  have cF := (sh_adv hb.pc hp).2
  have hb1 := hb.adv hp
  obtain ⟨x, x1, x2⟩ := hb.pm.wq.ty pN
  have hV := hT.V3 p pN hK
  obtain ⟨n1, e1, e2, e3, e4, e5, e6, e7, e8, e9, e10⟩ := sh_266 (k := 6) (t := mm.I 66 21) (a := -1) (b := mm.I 66 21 + 1) hb1.pm (by omega)
  have ec : sf_61 (sq_44 (u + 1)) (Int32.ofNat d) mc = sh_bt (sf_48 40 (mc.T, sh_u2 mc.I 39 4 (mc.I 39 4 + 1), mc.J, mc.s)) (fun m => (none, m)) fun _ m12 => sh_bt ((sq_44 u).f58 (Int32.ofNat (d + 1)) m12) (fun m => (none, m)) fun _ m13 => sh_bt (sf_48 41 m13) (fun m => (none, m)) fun _ m14 => sh_bn (sf_56 26 (Int32.ofNat (p + 1)) (Int32.ofNat (V p)) m14) fun r5 m15 => some ((some (), m15)) := by
    unfold sf_61
    rw [sh_45 hb.pc, sh_bc_some, if_neg (by rw [hK]; decide), if_neg (by rw [hK]; decide), if_pos hK]
    show sh_bt (sf_65 (sq_44 u) (Int32.ofNat d) mc) _ _ = _
    have hid : ∀ q : Option (Option Unit × sh_X), (sh_bt q (fun m => (none, m)) fun _ m2 => some (some (), m2)) = q := by
      intro q
      rcases q with _ | ⟨_ | r, m⟩ <;> rfl
    rw [hid]
    unfold sf_65
    rw [show sf_66 (mc.I 39 4) mc = some (Int64.ofNat (V p)) by rw [hb.pc.at_]; exact sh_66 hb.pc.wc n4 pN (Or.inr (Or.inr hK)), sh_bc_some, sh_l32 (by omega), hb.pc.at_, sh_nI1, sh_nI1]
  have em : sf_272 (sq_240 v) (Int32.ofNat d) mm = sh_bn (sf_262 40 n1) fun r15 m25 =>
                    if r15 = true then
                      sh_bn ((sq_240 v).f267 (Int32.ofNat (d + 1)) m25) fun r16 m26 =>
                          if ((sh_u2 m26.I 74 g r16) 74 g) < 0 then
                            some (((-1), ⟨m26.T, sh_u2 m26.I 74 g r16, m26.J, m26.s⟩))
                          else
                            sh_bn (sf_262 41 ⟨m26.T, sh_u2 m26.I 74 g r16, m26.J, m26.s⟩) fun r17 m27 =>
                            if r17 = true then
                              some ((Int32.ofNat g, m27))
                            else
                              some (((-1), m27))
                    else
                      some (((-1), m25)) := by
    rw [sh_272k hb.pm (by rw [hK]; decide) (by rw [hK]; decide) (by rw [hK]; decide) (by rw [hK]; decide) (by rw [hK]; decide)]
    rw [show sf_261 (mm.I 66 21) mm = some x by rw [hb.pm.at_]; exact x1, sh_bc_some, if_neg (fun q => (x2.mp q) hK), e1, sh_bn_some, sh_nI1]
    have hok : sh_okb (Int32.ofNat g) 9000 = true := (sh_okn (by omega)).mpr (by omega)
    simp only [if_pos hok, sh_nIc (show g < 2147483648 by omega)]
  rw [ec, em]
  by_cases h40 : K (p + 1) = 40
  · have hp1 : p + 1 < N := hT.lt (by omega) (by rw [h40]; decide)
    obtain ⟨m3, c1, c3, c4⟩ := sh_48t hb1.pc h40 hp1
    obtain ⟨n3, d1, d3, d4⟩ := sh_262t e2 (Or.inr (Or.inr (by decide))) h40 hp1
    have hb2 : sh_Pb N K P V (p + 1 + 1) c w (g + 1) m3 n3 := sh_Pb.mk c3 d3 (by omega) (by omega)
    have cF2 : ∀ a b, sh_Cf a b mc m3 := fun a b => (cF a b).trans (c4 a b) (Nat.le_refl _) (Nat.le_refl _)
    have mF2 : sh_Mf g mm n3 := ((mF g).trans e3 (Nat.le_refl _)).trans (d4 g) (Nat.le_refl _)
    rw [c1, d1]
    show sh_Ep N K P V d p c w g mc mm (sh_bt ((sq_44 u).f58 (Int32.ofNat (d + 1)) m3) _ _) _
    rw [sh_bn_some, if_pos rfl]
    rcases hX u v (by omega) (by omega) (p + 1 + 1) c w (g + 1) m3 n3 hb2 (by omega) with ⟨z, mcf, mmf, z1, z2, z3, z4, z5⟩ | ⟨mc2, mm2, p2, c2, g2, e, ht, z1, z2, hO⟩
    · refine Or.inl ⟨z, mcf, _, z1, by rw [z2]; rfl, by rw [z3, sh_bn_some, sh_u2_same, if_pos (by decide)], z4.of (cF2 0 0), (z5.of mF2).set (by omega)⟩
    · have re := sh_R_e hO.r
      have lg := hO.lg
      have lc := hO.lc
      have lp := hO.lp
      have p2N := hO.pm.pN
      obtain ⟨f1, f2⟩ := sh_pset (e := g) (x := 74) (v := Int32.ofNat e) hO.pm (by omega)
      rw [z1, z2]
      show sh_Ep N K P V d p c w g mc mm (sh_bt (sf_48 41 mc2) _ _) _
      rw [sh_bn_some, sh_u2_same, if_neg (sh_nn (by omega))]
      by_cases h41 : K p2 = 41
      · have hp2 : p2 < N := hT.lt hO.pc.pN (by rw [h41]; decide)
        obtain ⟨m4, i1, i3, i4⟩ := sh_48t hO.pc h41 hp2
        obtain ⟨n4', j1, j3, j4⟩ := sh_262t f1 (Or.inr (Or.inr (by decide))) h41 hp2
        obtain ⟨m5, a1, a2, a3, a4, a5, a6⟩ := sh_56 (a := 26) (x := Int32.ofNat (p + 1)) (y := Int32.ofNat (V p)) i3 (by omega)
        have mfr : ∀ y, y < g2 → ∀ x, 72 ≤ x → x ≤ 78 → n4'.I x y = sh_u2 mm2.I 74 g (Int32.ofNat e) x y := fun y hy x h1 h2 => (j4 g2).pt y hy x h1 h2
        have mfo : ∀ y, g + 1 ≤ y → y < g2 → ∀ x, 72 ≤ x → x ≤ 78 → n4'.I x y = mm2.I x y := by
          intro y y1 y2 x h1 h2
          rw [mfr y y2 x h1 h2]
          by_cases hx : x = 74
          · subst hx; rw [sh_u2_idx (by omega)]
          · rw [sh_u2_cell hx]
        have m0 : ∀ x, 72 ≤ x → x ≤ 78 → x ≠ 74 → n4'.I x g = n1.I x g := by
          intro x h1 h2 h3
          rw [mfr g (by omega) x h1 h2, sh_u2_cell h3, hO.mf.pt g (by omega) x h1 h2, (d4 (g + 1)).pt g (by omega) x h1 h2]
        refine Or.inr ⟨m5, n4', p2 + 1, c2 + 1, g2, g, ht + 1, ?_, ?_, sh_Ok.mk a2 j3 (((cF2 c w).trans (hO.cf.trans (i4 c w) (Nat.le_refl _) (Nat.le_refl _)) (Nat.le_refl _) (Nat.le_refl _)).trans (a3 w) hO.cc (Nat.le_refl _)) (mF2.trans ((hO.mf.less (show g ≤ g + 1 by omega)).trans (f2.trans (j4 g) (Nat.le_refl _)) (Nat.le_refl _)) (Nat.le_refl _)) (by omega) (by omega) (by have := hO.cc; omega) (by omega) ?_ ?_ ?_⟩
        · rw [i1]
          show sh_bn (sf_56 26 _ _ m4) _ = _
          rw [a1]
          rfl
        · rw [j1, sh_bn_some, if_pos rfl]
        · unfold sp_R
          refine ⟨⟨by omega, by omega, hd, by omega, by omega⟩, p, ?_, by omega, by omega, Or.inr (Or.inl ⟨e, g + 1, g2, ⟨by omega, by omega, Or.inr (by omega)⟩, ?_, Or.inr ⟨?_, hK, ?_, ?_, ?_, ?_, by omega⟩, ?_⟩)⟩
          · rw [m0 73 (by omega) (by omega) (by omega), e5]; exact hb.pm.at_
          · rw [mfr g (by omega) 74 (by omega) (by omega), sh_u2_same]
          · rw [m0 72 (by omega) (by omega) (by omega), e4]
          · rw [m0 75 (by omega) (by omega) (by omega), e7, hb.pm.at_, sh_nI1]
          · rw [show c2 + 1 - 1 = c2 by omega]; exact a4
          · rw [show c2 + 1 - 1 = c2 by omega]; exact a5
          · rw [show c2 + 1 - 1 = c2 by omega]; exact a6
          · rw [show c2 + 1 - 1 = c2 by omega]
            refine sh_R_mono ht ht (g + 1) g2 (g + 1) g2 (d + 1) (d + 1) e c c2 (p + 1 + 1) p2 (p + 1) (p2 + 1) hO.r (Nat.le_refl _) (Nat.le_refl _) (Nat.le_refl _) (Nat.le_refl _) (by omega) (by omega) (by omega) ?_ ?_ ?_
            · intro x x1 x2
              exact ⟨mfo x x1 x2 72 (by omega) (by omega), mfo x x1 x2 73 (by omega) (by omega), mfo x x1 x2 74 (by omega) (by omega), mfo x x1 x2 75 (by omega) (by omega)⟩
            · intro x x1 x2 x3
              exact ⟨mfo x x1 x2 77 (by omega) (by omega), mfo x x1 x2 78 (by omega) (by omega)⟩
            · intro y y1 y2
              have q1 := (a3 w).cd y y2
              have q2 := (i4 c2 w).cd y y2
              exact ⟨q1.1.trans q2.1, q1.2.1.trans q2.2.1, q1.2.2.trans q2.2.2⟩
        · rw [m0 78 (by omega) (by omega) (by omega), e10]; exact hb.pm.at_
        · rw [m0 77 (by omega) (by omega) (by omega), e9]
      · refine Or.inl ⟨p2, _, _, hO.pc.pN, ?_, ?_, (hO.pc.bad.of hO.cf).of (cF2 0 0), ((f1.bad.of f2).of hO.mf).of mF2⟩
        · rw [sh_48f hO.pc h41]
          rfl
        · rw [sh_262f f1 (Or.inr (Or.inr (by decide))) h41, sh_bn_some, if_neg (by simp)]
  · refine Or.inl ⟨p + 1, _, _, by omega, ?_, ?_, hb1.pc.bad.of (cF 0 0), e2.bad.of ((mF g).trans e3 (Nat.le_refl _))⟩
    · rw [sh_48f hb1.pc h40]
      rfl
    · rw [sh_262f e2 (Or.inr (Or.inr (by decide))) h40, sh_bn_some, if_neg (by simp)]
end
