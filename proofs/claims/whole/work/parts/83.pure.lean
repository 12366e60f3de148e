/-! PARSERS: names, casts, brackets -/
section
variable {N : Nat} {K : Nat → Int32} {P V : Nat → Nat}
/-- what is left of 'plain' behind the numbers, truths and brackets -/
theorem sh_272k {p g : Nat} {mm : sh_X} {Q : sh_Q240} {x : Int32} (h : sh_Pm N K P V p g mm) (h2 : ¬ K p = 2) (h7 : ¬ K p = 7) (h15 : ¬ K p = 15) (h40 : ¬ K p = 40) (h91 : ¬ K p = 91) :
    sf_272 Q x mm = sh_bc (sf_261 (mm.I 66 21) mm) fun r8 =>
                  if r8 < 0 then
                    sh_bc (sf_259 (mm.I 66 21) mm) fun r9 =>
                    if r9 = true then
                      if sh_okb ((mm.I 66 21) + 1) 4002 = true then
                        if (mm.I 68 (Int32.toNatClampNeg ((mm.I 66 21) + 1))) = 40 then
                          sh_bn (sf_266 5 (mm.I 66 21) (-1) x ⟨mm.T, sh_u2 (sh_u2 mm.I 66 21 ((mm.I 66 21) + 1)) 66 21 (((mm.I 66 21) + 1) + 1), mm.J, mm.s⟩) fun r10 m20 =>
                          if sh_okb (m20.I 66 21) 4002 = true then
                            if (m20.I 68 (Int32.toNatClampNeg (m20.I 66 21))) = 41 then
                              some ((r10, ⟨m20.T, sh_u2 m20.I 66 21 ((m20.I 66 21) + 1), m20.J, m20.s⟩))
                            else
                              sh_bn (Q.f273 r10 x 41 m20) fun r11 m21 =>
                              if r11 = true then
                                some ((r10, m21))
                              else
                                some (((-1), m21))
                          else none
                        else
                          sh_bn (sf_266 4 (mm.I 66 21) (-1) (-1) ⟨mm.T, sh_u2 mm.I 66 21 ((mm.I 66 21) + 1), mm.J, mm.s⟩) fun r12 m22 =>
                          some ((r12, m22))
                      else none
                    else
                      sh_bn (sf_268 mm) fun r13 m23 =>
                      some ((r13, m23))
                  else
                    sh_bn (sf_266 6 (mm.I 66 21) (-1) ((mm.I 66 21) + 1) ⟨mm.T, sh_u2 mm.I 66 21 ((mm.I 66 21) + 1), mm.J, mm.s⟩) fun r14 m24 =>
                    sh_bn (sf_262 40 m24) fun r15 m25 =>
                    if r15 = true then
                      sh_bn (Q.f267 (x + 1) m25) fun r16 m26 =>
                      if sh_okb r14 9000 = true then
                        if sh_okb r14 9000 = true then
                          if ((sh_u2 m26.I 74 (Int32.toNatClampNeg r14) r16) 74 (Int32.toNatClampNeg r14)) < 0 then
                            some (((-1), ⟨m26.T, sh_u2 m26.I 74 (Int32.toNatClampNeg r14) r16, m26.J, m26.s⟩))
                          else
                            sh_bn (sf_262 41 ⟨m26.T, sh_u2 m26.I 74 (Int32.toNatClampNeg r14) r16, m26.J, m26.s⟩) fun r17 m27 =>
                            if r17 = true then
                              some ((r14, m27))
                            else
                              some (((-1), m27))
                        else none
                      else none
                    else
                      some (((-1), m25)) := by
  obtain ⟨k1, k2, k3⟩ := sh_mok h
  have t19 : sf_256 (mm.I 66 21) 19 mm = some (decide (K p = Int32.ofNat (4 + 11))) := by rw [h.at_]; exact h.wq.wd h.pN (show 11 < 12 by omega)
  have t12 : sf_256 (mm.I 66 21) 12 mm = some (decide (K p = Int32.ofNat (4 + 3))) := by rw [h.at_]; exact h.wq.wd h.pN (show 3 < 12 by omega)
  unfold sf_272
  rw [if_pos k1, k2, if_neg (fun q => h2 ((h.wq.tk h.pN (Or.inr (Or.inl rfl))).mp q)), t19, sh_bc_some, decide_eq_false (show ¬ K p = Int32.ofNat (4 + 11) from h15), if_neg (by simp), t12, sh_bc_some, decide_eq_false (show ¬ K p = Int32.ofNat (4 + 3) from h7), if_neg (by simp), if_pos k1, if_neg (fun q => h40 ((h.wq.tk h.pN (Or.inr (Or.inr (by decide)))).mp q)), if_pos k1, if_neg (fun q => h91 ((h.wq.tk h.pN (Or.inr (Or.inr (by decide)))).mp q))]
theorem sh_Pm.n1 {p g : Nat} {mm : sh_X} (h : sh_Pm N K P V p g mm) (hp : p < N) : mm.I 66 21 + 1 = Int32.ofNat (p + 1) ∧ sh_okb (mm.I 66 21 + 1) 4002 = true ∧ Int32.toNatClampNeg (mm.I 66 21 + 1) = p + 1 := by
  have := h.N4
  have e : mm.I 66 21 + 1 = Int32.ofNat (p + 1) := by rw [h.at_, sh_nI1]
  exact ⟨e, by rw [e]; exact (sh_okn (by omega)).mpr (by omega), by rw [e]; exact sh_nIc (by omega)⟩
/-- a name that is no call -/
theorem sh_pname {d p c w g u v : Nat} {mc mm : sh_X} (hT : sh_Txt N K P V) (hb : sh_Pb N K P V p c w g mc mm) (hd : d ≤ 40) (hK : K p = 1) (hK1 : ¬ K (p + 1) = 40) : sh_Ep N K P V d p c w g mc mm (sf_61 (sq_44 (u + 1)) (Int32.ofNat d) mc) (sf_272 (sq_240 v) (Int32.ofNat d) mm) := by
  have n4 := hb.pc.N4
  have bc := hb.bc
  have bg := hb.bg
  have pN := hb.pc.pN
  have hp : p < N := hT.lt pN (by rw [hK]; decide)
  obtain ⟨mA, mF⟩ := sh_madv hb.pm hp
  obtain ⟨cA, cF⟩ := sh_adv hb.pc hp
  obtain ⟨m1, a1, a2, a3, a4, a5, a6⟩ := sh_56 (a := 21) (x := mc.I 39 4) (y := 0) cA (by omega)
  obtain ⟨n1, e1, e2, e3, e4, e5, e6, e7, e8, e9, e10⟩ := sh_266 (k := 4) (t := mm.I 66 21) (a := -1) (b := -1) mA (by omega)
  obtain ⟨x, x1, x2⟩ := hb.pm.wq.ty pN
  obtain ⟨q1, q2, q3⟩ := hb.pm.n1 hp
  refine Or.inr ⟨m1, n1, p + 1, c + 1, g + 1, g, 1, ?_, ?_, sh_Ok.mk a2 e2 ((cF c w).trans (a3 w) (Nat.le_refl _) (Nat.le_refl _)) ((mF g).trans e3 (Nat.le_refl _)) (by omega) (by omega) (by omega) (by omega) ?_ (by rw [e10]; exact hb.pm.at_) e9⟩
  · unfold sf_61
    rw [sh_45 hb.pc, sh_bc_some, if_pos hK]
    show sh_bt (sf_62 (sq_44 u) (Int32.ofNat d) mc) _ _ = _
    unfold sf_62
    rw [sh_45 cA, sh_bc_some, if_neg hK1, a1]
    rfl
  · rw [sh_272k hb.pm (by rw [hK]; decide) (by rw [hK]; decide) (by rw [hK]; decide) (by rw [hK]; decide) (by rw [hK]; decide)]
    rw [show sf_261 (mm.I 66 21) mm = some x by rw [hb.pm.at_]; exact x1, sh_bc_some, if_pos (x2.mpr (by rw [hK]; decide)), show sf_259 (mm.I 66 21) mm = some (decide (K p = 1)) by rw [hb.pm.at_]; exact hb.pm.wq.nm pN, sh_bc_some, decide_eq_true hK, if_pos rfl, if_pos q2, q3, if_neg (fun q => hK1 ((hb.pm.wq.tk (by omega) (Or.inr (Or.inr (by decide)))).mp q)), e1]
    rfl
  · unfold sp_R
    refine ⟨⟨by omega, by omega, hd, by omega, by omega⟩, p, by rw [e5]; exact hb.pm.at_, by omega, by omega, Or.inl ⟨rfl, by rw [a5]; exact hb.pc.at_, Or.inr (Or.inr (Or.inr ⟨e4, a4, hK⟩))⟩⟩
/-- no word that an expression begins with -/
theorem sh_pbad {d p c w g u v : Nat} {mc mm : sh_X} (hb : sh_Pb N K P V p c w g mc mm) (h1 : ¬ K p = 1) (h2 : ¬ K p = 2) (h3 : ¬ K p = 3) (h7 : ¬ K p = 7) (h15 : ¬ K p = 15) (h40 : ¬ K p = 40) (h91 : ¬ K p = 91) : sh_Ep N K P V d p c w g mc mm (sf_61 (sq_44 u) (Int32.ofNat d) mc) (sf_272 (sq_240 v) (Int32.ofNat d) mm) := by
  have pN := hb.pc.pN
  obtain ⟨x, x1, x2⟩ := hb.pm.wq.ty pN
  refine Or.inl ⟨p, _, _, pN, ?_, ?_, hb.pc.bad, hb.pm.bad⟩
  · unfold sf_61
    rw [sh_45 hb.pc, sh_bc_some, if_neg h1, if_neg h2, if_neg h3, if_neg (fun q => by rcases q with q | q; exact h7 q; exact h15 q), if_neg h40, if_neg h91, sh_49 hb.pc]
    rfl
  · rw [sh_272k hb.pm h2 h7 h15 h40 h91]
    rw [show sf_261 (mm.I 66 21) mm = some x by rw [hb.pm.at_]; exact x1, sh_bc_some, if_pos (x2.mpr h3), show sf_259 (mm.I 66 21) mm = some (decide (K p = 1)) by rw [hb.pm.at_]; exact hb.pm.wq.nm pN, sh_bc_some, decide_eq_false h1, if_neg (by simp), sh_268 hb.pm]
    rfl
/-- the state behind an expression may begin another parse -/
theorem sh_Ok.pb {d p c w g : Nat} {mc mm mc2 mm2 : sh_X} {p2 c2 g2 e ht : Nat} (h : sh_Ok N K P V d p c w g mc mm mc2 mm2 p2 c2 g2 e ht) (hb : sh_Pb N K P V p c w g mc mm) : sh_Pb N K P V p2 c2 w g2 mc2 mm2 := sh_Pb.mk h.pc h.pm (by have := h.lc; have := hb.bc; omega) (by have := h.lg; have := hb.bg; omega)
theorem sh_Pb.adv {p c w g : Nat} {mc mm : sh_X} (hb : sh_Pb N K P V p c w g mc mm) (hp : p < N) : sh_Pb N K P V (p + 1) c w g (mc.T, sh_u2 mc.I 39 4 (mc.I 39 4 + 1), mc.J, mc.s) (mm.T, sh_u2 mm.I 66 21 (mm.I 66 21 + 1), mm.J, mm.s) := sh_Pb.mk (sh_adv hb.pc hp).1 (sh_madv hb.pm hp).1 (by have := hb.bc; omega) (by have := hb.bg; omega)
theorem sh_neg1I : ¬ (Int32.ofNat 0 : Int32) < 0 := by decide
theorem sh_nn {e : Nat} (h : e < 2147483648) : ¬ Int32.ofNat e < 0 := sh_nI0 h
/-- an expression in brackets -/
theorem sh_pparen {d p c w g u v : Nat} {mc mm : sh_X} (hT : sh_Txt N K P V) (hX : sh_HX N K P V (d + 1)) (hb : sh_Pb N K P V p c w g mc mm) (hd : d ≤ 40) (hw : w ≤ 10 * d + 10) (hu : 5 * (40 - d) + 2 ≤ u) (hv : 16 * (40 - d) + 13 ≤ v) (hK : K p = 40) : sh_Ep N K P V d p c w g mc mm (sf_61 (sq_44 u) (Int32.ofNat d) mc) (sf_272 (sq_240 v) (Int32.ofNat d) mm) := by
  have n4 := hb.pc.N4
  have bc := hb.bc
  have bg := hb.bg
  have pN := hb.pc.pN
  have hp : p < N := hT.lt pN (by rw [hK]; decide)
  obtain ⟨k1, k2, k3⟩ := sh_mok hb.pm
  have mF := (sh_madv hb.pm hp).2
  have cF := (sh_adv hb.pc hp).2
  have hb1 := hb.adv hp
  have ec : sf_61 (sq_44 u) (Int32.ofNat d) mc = sh_bt ((sq_44 u).f58 (Int32.ofNat (d + 1)) (mc.T, sh_u2 mc.I 39 4 (mc.I 39 4 + 1), mc.J, mc.s)) (fun m => (none, m)) fun _ m16 => sh_bt (sf_48 41 m16) (fun m => (none, m)) fun _ m17 => some ((some (), m17)) := by
    unfold sf_61
    rw [sh_45 hb.pc, sh_bc_some, if_neg (by rw [hK]; decide), if_neg (by rw [hK]; decide), if_neg (by rw [hK]; decide), if_neg (by rw [hK]; decide), if_pos hK, sh_nI1]
  have em : sf_272 (sq_240 v) (Int32.ofNat d) mm = sh_bn ((sq_240 v).f267 (Int32.ofNat (d + 1)) (mm.T, sh_u2 mm.I 66 21 (mm.I 66 21 + 1), mm.J, mm.s)) fun r4 m14 =>
              if r4 < 0 then
                some (((-1), m14))
              else
                sh_bn (sf_262 41 m14) fun r5 m15 =>
                if r5 = true then
                  if sh_okb r4 9000 = true then
                    some ((r4, ⟨m15.T, sh_u2 m15.I 78 (Int32.toNatClampNeg r4) (mm.I 66 21), m15.J, m15.s⟩))
                  else none
                else
                  some (((-1), m15)) := by
    have t19 : sf_256 (mm.I 66 21) 19 mm = some (decide (K p = Int32.ofNat (4 + 11))) := by rw [hb.pm.at_]; exact hb.pm.wq.wd pN (show 11 < 12 by omega)
    have t12 : sf_256 (mm.I 66 21) 12 mm = some (decide (K p = Int32.ofNat (4 + 3))) := by rw [hb.pm.at_]; exact hb.pm.wq.wd pN (show 3 < 12 by omega)
    unfold sf_272
    rw [if_pos k1, k2, if_neg (fun q => absurd ((hb.pm.wq.tk pN (Or.inr (Or.inl rfl))).mp q) (by rw [hK]; decide)), t19, sh_bc_some, decide_eq_false (show ¬ K p = Int32.ofNat (4 + 11) by rw [hK]; decide), if_neg (by simp), t12, sh_bc_some, decide_eq_false (show ¬ K p = Int32.ofNat (4 + 3) by rw [hK]; decide), if_neg (by simp), if_pos k1, if_pos ((hb.pm.wq.tk pN (Or.inr (Or.inr (by decide)))).mpr hK), sh_nI1]
  rw [ec, em]
  rcases hX u v (by omega) (by omega) (p + 1) c w g _ _ hb1 (by omega) with ⟨z, mcf, mmf, z1, z2, z3, z4, z5⟩ | ⟨mc2, mm2, p2, c2, g2, e, ht, z1, z2, hO⟩
  · refine Or.inl ⟨z, mcf, mmf, z1, by rw [z2]; rfl, ?_, z4.of (cF 0 0), z5.of (mF 0)⟩
    rw [z3, sh_bn_some, if_pos (by decide)]
  · have re := sh_R_e hO.r
    have lg := hO.lg
    have lc := hO.lc
    have lp := hO.lp
    have he : e < 9000 := by have := hO.pm.pN; omega
    by_cases h41 : K p2 = 41
    · have hp2 : p2 < N := hT.lt hO.pc.pN (by rw [h41]; decide)
      obtain ⟨m3, c1, c3, c4⟩ := sh_48t hO.pc h41 hp2
      obtain ⟨n3, d1, d3, d4⟩ := sh_262t hO.pm (Or.inr (Or.inr (by decide))) h41 hp2
      obtain ⟨f1, f2⟩ := sh_pset (e := e) (x := 78) (v := mm.I 66 21) d3 (by omega)
      refine Or.inr ⟨m3, (n3.T, sh_u2 n3.I 78 e (mm.I 66 21), n3.J, n3.s), p2 + 1, c2, g2, e, ht, ?_, ?_, sh_Ok.mk c3 f1 ((cF c w).trans (hO.cf.trans (c4 c w) (Nat.le_refl _) (Nat.le_refl _)) (Nat.le_refl _) (Nat.le_refl _)) ((mF g).trans ((hO.mf.trans (d4 g) (Nat.le_refl _)).trans f2 re.1) (Nat.le_refl _)) (by omega) (by omega) hO.cc (by omega) ?_ ?_ ?_⟩
      · rw [z1]
        show sh_bt (sf_48 41 mc2) _ _ = _
        rw [c1]
        rfl
      · rw [z2, sh_bn_some, if_neg (sh_nn (by omega)), d1, sh_bn_some, if_pos rfl, if_pos ((sh_okn (by omega)).mpr he), sh_nIc (by omega)]
      · refine sh_R_mono ht ht g g2 g g2 (d + 1) d e c c2 (p + 1) p2 p (p2 + 1) hO.r (Nat.le_refl _) (Nat.le_refl _) (Nat.le_refl _) (by omega) (by omega) (by omega) (by omega) ?_ ?_ ?_
        · intro x x1 x2
          have q := d4 g2
          simp only [sh_X.I, sh_u2_cell (show (72 : Nat) ≠ 78 by omega), sh_u2_cell (show (73 : Nat) ≠ 78 by omega), sh_u2_cell (show (74 : Nat) ≠ 78 by omega), sh_u2_cell (show (75 : Nat) ≠ 78 by omega)]
          exact ⟨q.pt x x2 72 (by omega) (by omega), q.pt x x2 73 (by omega) (by omega), q.pt x x2 74 (by omega) (by omega), q.pt x x2 75 (by omega) (by omega)⟩
        · intro x x1 x2 x3
          have q := d4 g2
          simp only [sh_X.I, sh_u2_cell (show (77 : Nat) ≠ 78 by omega), sh_u2_idx x3]
          exact ⟨q.pt x x2 77 (by omega) (by omega), q.pt x x2 78 (by omega) (by omega)⟩
        · intro y y1 y2
          exact (c4 c2 0).cd y y2
      · simp only [sh_X.I, sh_u2_same]
        exact hb.pm.at_
      · simp only [sh_X.I, sh_u2_cell (show (77 : Nat) ≠ 78 by omega)]
        have q := (d4 g2).pt e re.2.1 77 (by omega) (by omega)
        rw [show n3.2.1 77 e = _ from q]
        exact hO.nx
    · refine Or.inl ⟨p2, _, _, hO.pc.pN, ?_, ?_, (hO.pc.bad.of hO.cf).of (cF 0 0), (hO.pm.bad.of hO.mf).of (mF 0)⟩
      · rw [z1]
        show sh_bt (sf_48 41 mc2) _ _ = _
        rw [sh_48f hO.pc h41]
        rfl
      · rw [z2, sh_bn_some, if_neg (sh_nn (by omega)), sh_262f hO.pm (Or.inr (Or.inr (by decide))) h41, sh_bn_some, if_neg (by simp)]
end
