/-! PARSERS: let, output -/
section
variable {N : Nat} {K : Nat → Int32} {P V : Nat → Nat}
theorem sh_Cf.c3 {c w : Nat} {m m2 : sh_X} (h : sh_Cf c w m m2) {y : Nat} (hy : y < c) : m2.I 36 y = m.I 36 y ∧ m2.I 37 y = m.I 37 y ∧ m2.I 38 y = m.I 38 y := h.cd y hy
/-- let -/
theorem sh_slet {d p c g : Nat} {mc mm : sh_X} {Q : sh_Q48} {Q2 : sh_Q242} (hT : sh_Txt N K P V) (hd : d ≤ 40) (hb : sh_Qb N K P V p c g mc mm) (hK : K p = 12) : sh_Sp N K P V d p c g mc mm (sf_55_10 Q (Int32.ofNat d) mc) (sf_265 Q2 (Int32.ofNat d) mm) := by
  have n4 := hb.pc.N4
  have pN := hb.pc.pN
  have bc := hb.bc
  have bg := hb.bg
  have hp : p < N := hT.lt pN (by rw [hK]; decide)
  obtain ⟨m1, a1, a2, a3, a4, a5, a6⟩ := sh_56 (a := 0) (x := mc.I 39 4) (y := 0) hb.pc (by omega)
  obtain ⟨cA, cF⟩ := sh_adv a2 hp
  obtain ⟨mA, mF⟩ := sh_madv hb.pm hp
  obtain ⟨n1, e1, e2, e3, e4, e5, e6, e7, e8, e9, e10⟩ := sh_266 (k := 20) (t := mm.I 66 21) (a := -1) (b := mm.I 66 21 + 1) mA (by omega)
  have ec : sf_55_10 Q (Int32.ofNat d) mc = sh_bt (sf_48 1 (m1.T, sh_u2 m1.I 39 4 (m1.I 39 4 + 1), m1.J, m1.s)) (fun m => (none, m)) fun _ m11 => sh_bt (sf_48 61 m11) (fun m => (none, m)) fun _ m12 => sh_bt ((sq_44 sh_dp).f58 (Int32.ofNat d) m12) (fun m => (none, m)) fun _ m13 => sh_bt (sf_48 59 m13) (fun m => (none, m)) fun _ m14 => sh_bn (sf_56 2 (Int32.ofNat (p + 1)) 0 m14) fun r5 m15 => some ((some (), m15)) := by
    unfold sf_55_10
    rw [a1, sh_bn_some, sh_45 a2, sh_bc_some, if_neg (by rw [hK]; decide), if_neg (by rw [hK]; decide), if_pos hK, sh_idt]
    unfold sf_57
    rw [a2.at_, sh_nI1]
  have em : sf_265 Q2 (Int32.ofNat d) mm = sh_bn (sf_258 n1) fun r3 m13 =>
    if r3 = true then
      sh_bn (sf_262 61 m13) fun r4 m14 =>
      if r4 = true then
        sh_bn ((sq_240 sh_dp).f267 (Int32.ofNat d) m14) fun r m => if sh_u2 m.I 74 g r 74 g < 0 then some (-1, ((m.T, sh_u2 m.I 74 g r, m.J, m.s) : sh_X)) else sh_bn (sf_262 59 (m.T, sh_u2 m.I 74 g r, m.J, m.s)) fun r2 m2 => if r2 = true then some (Int32.ofNat g, m2) else some (-1, m2)
      else
        some (((-1), m14))
    else
      some (((-1), m13)) := by
    unfold sf_265
    have t16 := mA.wq.wd (i := p) pN (show 8 < 12 by omega)
    have hok : sh_okb (Int32.ofNat g) 9000 = true := (sh_okn (by omega)).mpr (by omega)
    rw [show sf_256 (mm.I 66 21) 16 (mm.T, sh_u2 mm.I 66 21 (mm.I 66 21 + 1), mm.J, mm.s) = some (decide (K p = Int32.ofNat (4 + 8))) by rw [hb.pm.at_] at t16 ⊢; exact t16, sh_bc_some, decide_eq_true (show K p = Int32.ofNat (4 + 8) from hK), if_pos rfl, e1, sh_bn_some]
    simp only [if_pos hok, sh_nIc (show g < 2147483648 by omega)]
  rw [ec, em]
  have cF1 : ∀ b, sh_Cf c b mc (m1.T, sh_u2 m1.I 39 4 (m1.I 39 4 + 1), m1.J, m1.s) := fun b => (a3 b).trans (cF c b) (Nat.le_refl _) (Nat.le_refl _)
  have mF1 : sh_Mf g mm n1 := (mF g).trans e3 (Nat.le_refl _)
  by_cases h1 : K (p + 1) = 1
  · have hp1 : p + 1 < N := hT.lt (by omega) (by rw [h1]; decide)
    obtain ⟨m2, b1, b2, b3⟩ := sh_48t cA h1 hp1
    obtain ⟨n2, d1, d2, d3⟩ := sh_258t e2 h1 hp1
    rw [b1, d1]
    show sh_Sp N K P V d p c g mc mm (sh_bt (sf_48 61 m2) _ _) _
    rw [sh_bn_some, if_pos rfl]
    by_cases h61 : K (p + 1 + 1) = 61
    · have hp2 : p + 1 + 1 < N := hT.lt (by omega) (by rw [h61]; decide)
      obtain ⟨m3, f1, f2, f3⟩ := sh_48t b2 h61 hp2
      obtain ⟨n3, i1, i2, i3⟩ := sh_262t d2 (Or.inr (Or.inr (by decide))) h61 hp2
      rw [f1, i1]
      show sh_Sp N K P V d p c g mc mm (sh_bt ((sq_44 sh_dp).f58 (Int32.ofNat d) m3) _ _) _
      rw [sh_bn_some, if_pos rfl]
      have hbx : sh_Pb N K P V (p + 1 + 1 + 1) (c + 1) 0 (g + 1) m3 n3 := sh_Pb.mk f2 i2 (by omega) (by omega)
      have cF3 : ∀ b, sh_Cf c b mc m3 := fun b => (cF1 b).trans ((b3 c b).trans (f3 c b) (Nat.le_refl _) (Nat.le_refl _)) (Nat.le_refl _) (Nat.le_refl _)
      have mF3 : sh_Mf g mm n3 := mF1.trans ((d3 g).trans (i3 g) (Nat.le_refl _)) (Nat.le_refl _)
      rcases sh_pthen (d := d) (x := 74) (k := 59) (g0 := g) (kc := fun m13 => sh_bt (sf_48 59 m13) (fun m => (none, m)) fun _ m14 => sh_bn (sf_56 2 (Int32.ofNat (p + 1)) 0 m14) fun r5 m15 => some ((some (), m15))) (km := fun m => some (Int32.ofNat g, m)) hT (by omega) hbx (by omega) (Or.inl rfl) (by decide) (show 300 ≤ sh_dp by unfold sh_dp; omega) with ⟨z, mcf, mmf, z1, z2, z3, z4, z5⟩ | ⟨z, mc4, mmf, z1, z2, z3, ⟨c4, z4, z4b, z4c⟩, z5, z6, z7⟩ | ⟨mc4, mm4, p4, c4, g4, e, ht, z1, z2, z3, z4, z5, z6, z7, z8, z9, z10, z11, z12, z13, z14, z15, z16, z17⟩
      · exact Or.inl ⟨z, mcf, mmf, z1, z2, z3, z4.of (cF3 0), z5.of mF3⟩
      · refine Or.inl ⟨z, _, mmf, z1, z2.trans ?_, z3, (z4.bad.of z5).of (cF3 0), z6.of mF3⟩
        show sh_bt (sf_48 59 mc4) _ _ = _
        rw [sh_48f z4 z7]
        rfl
      · obtain ⟨m5, j1, j2, j3⟩ := sh_48t z5 z3 z4
        obtain ⟨m6, k1, k2, k3, k4, k5, k6⟩ := sh_56 (a := 2) (x := Int32.ofNat (p + 1)) (y := 0) j2 (by omega)
        refine Or.inr ⟨m6, mm4, p4 + 1, c4 + 1, g4, ht + 1, z1.trans ?_, z2, sh_So.mk k2 z6 ?_ (mF3.trans z8 (Nat.le_refl _)) (by omega) (by omega) (by omega) (by omega) ?_ ?_⟩
        · show sh_bt (sf_48 59 mc4) _ _ = _
          rw [j1]
          show sh_bn (sf_56 2 _ _ m5) _ = _
          rw [k1]
          rfl
        · exact ((cF3 0).trans (z7.less (show c ≤ c + 1 by omega) (Nat.le_refl _)) (Nat.le_refl _) (Nat.le_refl _)).trans ((j3 c 0).trans (k3 0) (by omega) (Nat.le_refl _)) (Nat.le_refl _) (Nat.le_refl _)
        · have re := sh_R_e z13
          have n1g : ∀ y, 72 ≤ y → y ≤ 78 → y ≠ 74 → mm4.I y g = n1.I y g := by
            intro y y1 y2 y3
            rw [z16 y y1 y2 y3, (i3 (g + 1)).pt g (by omega) y y1 y2, (d3 (g + 1)).pt g (by omega) y y1 y2]
          have cd0 : m6.I 36 c = m1.I 36 c ∧ m6.I 37 c = m1.I 37 c := by
            have q1 := (k3 0).cd c (by omega)
            have q2 := (j3 (c + 1) 0).cd c (by omega)
            have q3 := z7.cd c (by omega)
            have q4 := (f3 (c + 1) 0).cd c (by omega)
            have q5 := (b3 (c + 1) 0).cd c (by omega)
            have q6 := (cF (c + 1) 0).cd c (by omega)
            exact ⟨q1.1.trans (q2.1.trans (q3.1.trans (q4.1.trans (q5.1.trans q6.1)))), q1.2.1.trans (q2.2.1.trans (q3.2.1.trans (q4.2.1.trans (q5.2.1.trans q6.2.1))))⟩
          unfold sp_S
          refine ⟨⟨Nat.le_refl _, by omega, hd, by omega, by omega, by omega⟩, ?_, by rw [cd0.1, a4], by rw [cd0.2, a5]; exact hb.pc.at_, Or.inl ⟨?_, ?_, h1, ?_, ?_, e, ht, z15, ?_⟩⟩
          · rw [n1g 73 (by omega) (by omega) (by omega), e5]; exact hb.pm.at_
          · rw [n1g 72 (by omega) (by omega) (by omega), e4]
          · rw [n1g 75 (by omega) (by omega) (by omega), e7, hb.pm.at_, sh_nI1]
          · rw [show c4 + 1 - 1 = c4 by omega]; exact k4
          · rw [show c4 + 1 - 1 = c4 by omega]; exact k5
          · rw [show c4 + 1 - 1 = c4 by omega, show p4 + 1 - 1 = p4 by omega]
            refine sh_R_fr z13 (fun _ _ _ _ _ _ => rfl) (fun y y1 y2 => ?_)
            have q1 := (k3 0).cd y (by omega)
            have q2 := (j3 c4 0).cd y (by omega)
            exact ⟨q1.1.trans q2.1, q1.2.1.trans q2.2.1, q1.2.2.trans q2.2.2⟩
        · rw [z16 77 (by omega) (by omega) (by omega), (i3 (g + 1)).pt g (by omega) 77 (by omega) (by omega), (d3 (g + 1)).pt g (by omega) 77 (by omega) (by omega)]
          exact e9
    · refine Or.inl ⟨p + 1 + 1, _, _, by omega, ?_, ?_, (b2.bad.of (b3 0 0)).of (cF1 0), (d2.bad.of (d3 0)).of mF1⟩
      · rw [sh_48f b2 h61]
        rfl
      · rw [sh_262f d2 (Or.inr (Or.inr (by decide))) h61, sh_bn_some, if_neg (by simp)]
  · refine Or.inl ⟨p + 1, _, _, by omega, ?_, ?_, cA.bad.of (cF1 0), e2.bad.of mF1⟩
    · rw [sh_48f cA h1]
      rfl
    · rw [sh_258f e2 h1, sh_bn_some, if_neg (by simp)]
/-- output -/
theorem sh_sout {d p c g : Nat} {mc mm : sh_X} {Q : sh_Q48} {Q2 : sh_Q242} (hT : sh_Txt N K P V) (hd : d ≤ 40) (hb : sh_Qb N K P V p c g mc mm) (hK : K p = 13) : sh_Sp N K P V d p c g mc mm (sf_55_10 Q (Int32.ofNat d) mc) (sf_265 Q2 (Int32.ofNat d) mm) := by
  have n4 := hb.pc.N4
  have pN := hb.pc.pN
  have bc := hb.bc
  have bg := hb.bg
  have hp : p < N := hT.lt pN (by rw [hK]; decide)
  obtain ⟨m1, a1, a2, a3, a4, a5, a6⟩ := sh_56 (a := 0) (x := mc.I 39 4) (y := 0) hb.pc (by omega)
  obtain ⟨m2, b1, b2, b3, b4, b5, b6⟩ := sh_56 (a := 12) (x := m1.I 39 4) (y := 0) a2 (by omega)
  obtain ⟨cA, cF⟩ := sh_adv b2 hp
  obtain ⟨mA, mF⟩ := sh_madv hb.pm hp
  obtain ⟨n1, e1, e2, e3, e4, e5, e6, e7, e8, e9, e10⟩ := sh_266 (k := 24) (t := mm.I 66 21) (a := -1) (b := -1) mA (by omega)
  obtain ⟨m3, hm3⟩ : ∃ m3 : sh_X, m3 = (m2.T, sh_u2 m2.I 39 4 (m2.I 39 4 + 1), m2.J, m2.s) := ⟨_, rfl⟩
  rw [← hm3] at cA cF
  have ec : sf_55_10 Q (Int32.ofNat d) mc = sh_bt ((sq_44 sh_dp).f58 (Int32.ofNat d) m3) (fun m => (none, m)) fun _ m13 => sh_bt (sf_48 59 m13) (fun m => (none, m)) fun _ m14 => sh_bn (sf_56 13 (Int32.ofNat p) 0 m14) fun r5 m15 => some ((some (), m15)) := by
    unfold sf_55_10
    rw [a1, sh_bn_some, sh_45 a2, sh_bc_some, if_neg (by rw [hK]; decide), if_neg (by rw [hK]; decide), if_neg (by rw [hK]; decide), if_pos hK, sh_idt]
    unfold sf_74
    rw [b1, sh_bn_some, ← hm3, a2.at_]
  have em : sf_265 Q2 (Int32.ofNat d) mm = sh_bn ((sq_240 sh_dp).f267 (Int32.ofNat d) n1) fun r m => if sh_u2 m.I 74 g r 74 g < 0 then some (-1, ((m.T, sh_u2 m.I 74 g r, m.J, m.s) : sh_X)) else sh_bn (sf_262 59 (m.T, sh_u2 m.I 74 g r, m.J, m.s)) fun r2 m2 => if r2 = true then some (Int32.ofNat g, m2) else some (-1, m2) := by
    unfold sf_265
    have t16 := mA.wq.wd (i := p) pN (show 8 < 12 by omega)
    have t17 := mA.wq.wd (i := p) pN (show 9 < 12 by omega)
    have hok : sh_okb (Int32.ofNat g) 9000 = true := (sh_okn (by omega)).mpr (by omega)
    rw [show sf_256 (mm.I 66 21) 16 (mm.T, sh_u2 mm.I 66 21 (mm.I 66 21 + 1), mm.J, mm.s) = some (decide (K p = Int32.ofNat (4 + 8))) by rw [hb.pm.at_] at t16 ⊢; exact t16, sh_bc_some, decide_eq_false (show ¬ K p = Int32.ofNat (4 + 8) by rw [hK]; decide), if_neg (by simp), show sf_256 (mm.I 66 21) 17 (mm.T, sh_u2 mm.I 66 21 (mm.I 66 21 + 1), mm.J, mm.s) = some (decide (K p = Int32.ofNat (4 + 9))) by rw [hb.pm.at_] at t17 ⊢; exact t17, sh_bc_some, decide_eq_true (show K p = Int32.ofNat (4 + 9) from hK), if_pos rfl, e1, sh_bn_some]
    simp only [if_pos hok, sh_nIc (show g < 2147483648 by omega)]
  rw [ec, em]
  have hbx : sh_Pb N K P V (p + 1) (c + 1 + 1) 0 (g + 1) m3 n1 := sh_Pb.mk cA e2 (by omega) (by omega)
  have cF3 : ∀ b, sh_Cf c b mc m3 := fun b => (a3 b).trans ((b3 b).trans (cF (c + 1) b) (Nat.le_refl _) (Nat.le_refl _)) (by omega) (Nat.le_refl _)
  have mF3 : sh_Mf g mm n1 := (mF g).trans e3 (Nat.le_refl _)
  rcases sh_pthen (d := d) (x := 74) (k := 59) (g0 := g) (kc := fun m13 => sh_bt (sf_48 59 m13) (fun m => (none, m)) fun _ m14 => sh_bn (sf_56 13 (Int32.ofNat p) 0 m14) fun r5 m15 => some ((some (), m15))) (km := fun m => some (Int32.ofNat g, m)) hT (by omega) hbx (by omega) (Or.inl rfl) (by decide) (show 300 ≤ sh_dp by unfold sh_dp; omega) with ⟨z, mcf, mmf, z1, z2, z3, z4, z5⟩ | ⟨z, mc4, mmf, z1, z2, z3, ⟨c4, z4, z4b, z4c⟩, z5, z6, z7⟩ | ⟨mc4, mm4, p4, c4, g4, e, ht, z1, z2, z3, z4, z5, z6, z7, z8, z9, z10, z11, z12, z13, z14, z15, z16, z17⟩
  · exact Or.inl ⟨z, mcf, mmf, z1, z2, z3, z4.of (cF3 0), z5.of mF3⟩
  · refine Or.inl ⟨z, _, mmf, z1, z2.trans ?_, z3, (z4.bad.of z5).of (cF3 0), z6.of mF3⟩
    show sh_bt (sf_48 59 mc4) _ _ = _
    rw [sh_48f z4 z7]
    rfl
  · obtain ⟨m5, j1, j2, j3⟩ := sh_48t z5 z3 z4
    obtain ⟨m6, k1, k2, k3, k4, k5, k6⟩ := sh_56 (a := 13) (x := Int32.ofNat p) (y := 0) j2 (by omega)
    refine Or.inr ⟨m6, mm4, p4 + 1, c4 + 1, g4, ht + 1, z1.trans ?_, z2, sh_So.mk k2 z6 ?_ (mF3.trans z8 (Nat.le_refl _)) (by omega) (by omega) (by omega) (by omega) ?_ ?_⟩
    · show sh_bt (sf_48 59 mc4) _ _ = _
      rw [j1]
      show sh_bn (sf_56 13 _ _ m5) _ = _
      rw [k1]
      rfl
    · exact ((cF3 0).trans (z7.less (show c ≤ c + 1 + 1 by omega) (Nat.le_refl _)) (Nat.le_refl _) (Nat.le_refl _)).trans ((j3 c 0).trans (k3 0) (by omega) (Nat.le_refl _)) (Nat.le_refl _) (Nat.le_refl _)
    · have re := sh_R_e z13
      have n1g : ∀ y, 72 ≤ y → y ≤ 78 → y ≠ 74 → mm4.I y g = n1.I y g := z16
      have cdx : ∀ y, y < c + 1 + 1 → m6.I 36 y = m2.I 36 y ∧ m6.I 37 y = m2.I 37 y := by
        intro y hy
        have q1 := (k3 0).cd y (by omega)
        have q2 := (j3 (c + 1 + 1) 0).cd y (by omega)
        have q3 := z7.cd y (by omega)
        have q6 := (cF (c + 1 + 1) 0).cd y (by omega)
        exact ⟨q1.1.trans (q2.1.trans (q3.1.trans q6.1)), q1.2.1.trans (q2.2.1.trans (q3.2.1.trans q6.2.1))⟩
      have c0 := cdx c (by omega)
      have c1 := cdx (c + 1) (by omega)
      have c00 := (b3 0).cd c (by omega)
      unfold sp_S
      refine ⟨⟨Nat.le_refl _, by omega, hd, by omega, by omega, by omega⟩, ?_, by rw [c0.1, c00.1, a4], by rw [c0.2, c00.2.1, a5]; exact hb.pc.at_, Or.inr (Or.inl ⟨?_, ?_, ?_, ?_, ?_, e, ht, z15, ?_⟩)⟩
      · rw [n1g 73 (by omega) (by omega) (by omega), e5]; exact hb.pm.at_
      · rw [n1g 72 (by omega) (by omega) (by omega), e4]
      · rw [c1.1, b4]
      · rw [c1.2, b5]; exact a2.at_
      · rw [show c4 + 1 - 1 = c4 by omega]; exact k4
      · rw [show c4 + 1 - 1 = c4 by omega]; exact k5
      · rw [show c4 + 1 - 1 = c4 by omega, show p4 + 1 - 1 = p4 by omega]
        refine sh_R_fr z13 (fun _ _ _ _ _ _ => rfl) (fun y y1 y2 => ?_)
        have q1 := (k3 0).cd y (by omega)
        have q2 := (j3 c4 0).cd y (by omega)
        exact ⟨q1.1.trans q2.1, q1.2.1.trans q2.2.1, q1.2.2.trans q2.2.2⟩
    · rw [z16 77 (by omega) (by omega) (by omega)]
      exact e9
end
