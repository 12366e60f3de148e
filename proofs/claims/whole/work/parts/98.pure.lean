/-! PARSERS: if -/
section
variable {N : Nat} {K : Nat → Int32} {P V : Nat → Nat}
theorem sh_sif {d p c g u v : Nat} {mc mm : sh_X} (hT : sh_Txt N K P V) (hd : d ≤ 40) (hS : sh_HS N K P V (d + 1)) (hu : 4 * (40 - d) + 2 ≤ u) (hv : 3 * (40 - d) + 1 ≤ v) (hb : sh_Qb N K P V p c g mc mm) (hK : K p = 10) : sh_Sp N K P V d p c g mc mm (sf_55_10 (sq_48 (u + 2)) (Int32.ofNat d) mc) (sf_265 (sq_242 (v + 1)) (Int32.ofNat d) mm) := by
  have n4 := hb.pc.N4
  have pN := hb.pc.pN
  have bc := hb.bc
  have bg := hb.bg
  have hp : p < N := hT.lt pN (by rw [hK]; decide)
  obtain ⟨m1, a1, a2, a3, a4, a5, a6⟩ := sh_56 (a := 0) (x := mc.I 39 4) (y := 0) hb.pc (by omega)
  obtain ⟨cA, cF⟩ := sh_adv a2 hp
  obtain ⟨mA, mF⟩ := sh_madv hb.pm hp
  obtain ⟨n1, e1, e2, e3, e4, e5, e6, e7, e8, e9, e10⟩ := sh_266 (k := 22) (t := mm.I 66 21) (a := -1) (b := -1) mA (by omega)
  obtain ⟨m2, hm2⟩ : ∃ m2 : sh_X, m2 = (m1.T, sh_u2 m1.I 39 4 (m1.I 39 4 + 1), m1.J, m1.s) := ⟨_, rfl⟩
  rw [← hm2] at cA cF
  have hok : sh_okb (Int32.ofNat g) 9000 = true := (sh_okn (by omega)).mpr (by omega)
  have cF2 : ∀ b, sh_Cf c b mc m2 := fun b => (a3 b).trans (cF c b) (Nat.le_refl _) (Nat.le_refl _)
  have mF2 : sh_Mf g mm n1 := (mF g).trans e3 (Nat.le_refl _)
  have ec : sf_55_10 (sq_48 (u + 2)) (Int32.ofNat d) mc = sh_bt ((sq_44 sh_dp).f58 (Int32.ofNat d) m2) (fun m => (none, m)) fun _ m11 => sh_bn (sf_56 7 (Int32.ofNat (p + 1)) 0 m11) fun r2 m12 => sh_bt (sf_48 123 m12) (fun m => (none, m)) fun _ m11 => sh_bt ((sq_48 u).f53 (Int32.ofNat (d + 1)) m11) (fun m => (none, m)) fun _ m12 => sh_bt (sf_48 125 m12) (fun m => (none, m)) fun _ m13 => sh_bc (sf_45 m13) fun r4 => if r4 = 6 then sh_bn (sf_56 8 (m13.I 39 4) 0 m13) fun r5 m15 => sh_bt (sf_48 123 (m15.T, sh_u2 m15.I 39 4 (m15.I 39 4 + 1), m15.J, m15.s)) (fun m => (none, m)) fun _ m11 => sh_bt ((sq_48 u).f53 (Int32.ofNat (d + 1)) m11) (fun m => (none, m)) fun _ m12 => sh_bt (sf_48 125 m12) (fun m => (none, m)) fun _ m13 => sf_71_76 (sq_48 (u + 1)) (Int32.ofNat (p + 1)) m13 else sf_71_76 (sq_48 (u + 1)) (Int32.ofNat (p + 1)) m13 := by
    have e72 : ∀ (m : sh_X) (k : sh_X → Option (Option Unit × sh_X)), (sh_bt ((sq_48 (u + 1)).f72 (Int32.ofNat d) m) (fun m => (none, m)) fun _ m => k m) = sh_bt (sf_48 123 m) (fun m => (none, m)) fun _ m11 => sh_bt ((sq_48 u).f53 (Int32.ofNat (d + 1)) m11) (fun m => (none, m)) fun _ m12 => sh_bt (sf_48 125 m12) (fun m => (none, m)) fun _ m13 => k m13 := by
      intro m k
      show sh_bt (sf_72 (sq_48 u) (Int32.ofNat d) m) _ _ = _
      unfold sf_72
      rw [sh_nI1, sh_bt_as]
      congr 1
      funext _ m
      rw [sh_bt_as]
      congr 1
      funext _ m
      rw [sh_bt_as]
      rfl
    unfold sf_55_10
    rw [a1, sh_bn_some, sh_45 a2, sh_bc_some, if_neg (by rw [hK]; decide), if_pos hK, sh_idt]
    show sf_71 (sq_48 (u + 1)) (Int32.ofNat d) m1 = _
    unfold sf_71
    rw [← hm2, a2.at_, sh_nI1]
    congr 1
    funext _ m
    congr 1
    funext _ m
    rw [e72]
    congr 1
    funext _ m
    congr 1
    funext _ m
    congr 1
    funext _ m
    congr 1
    funext r4
    split
    · congr 1
      funext _ m
      rw [e72]
    · rfl
  have em : sf_265 (sq_242 (v + 1)) (Int32.ofNat d) mm = sh_bn ((sq_240 sh_dp).f267 (Int32.ofNat d) n1) fun r m => if sh_u2 m.I 74 g r 74 g < 0 then some (-1, ((m.T, sh_u2 m.I 74 g r, m.J, m.s) : sh_X)) else sh_bn (sf_262 123 (m.T, sh_u2 m.I 74 g r, m.J, m.s)) fun r2 m2 => if r2 = true then
          (sh_bn ((sq_242 v).f264 (Int32.ofNat (d + 1)) m2) fun r m => if sh_u2 m.I 75 g r 75 g = -2 then some (-1, ((m.T, sh_u2 m.I 75 g r, m.J, m.s) : sh_X)) else sh_bn (sf_262 125 (m.T, sh_u2 m.I 75 g r, m.J, m.s)) fun r2 m15 => if r2 = true then
                  (sh_bc (sf_256 (m15.I 66 21) 11 m15) fun r6 =>
                  if r6 = true then
                    sh_bn (sf_262 123 ⟨m15.T, sh_u2 m15.I 66 21 ((m15.I 66 21) + 1), m15.J, m15.s⟩) fun r7 m17 =>
                    if r7 = true then
                      (sh_bn ((sq_242 v).f264 (Int32.ofNat (d + 1)) m17) fun r m => if sh_u2 m.I 76 g r 76 g = -2 then some (-1, ((m.T, sh_u2 m.I 76 g r, m.J, m.s) : sh_X)) else sh_bn (sf_262 125 (m.T, sh_u2 m.I 76 g r, m.J, m.s)) fun r2 m2 => if r2 = true then some (Int32.ofNat g, m2) else some (-1, m2))
                    else
                      some (((-1), m17))
                  else
                    some ((Int32.ofNat g, m15)))
                else some (-1, m15))
          else some (-1, m2) := by
    unfold sf_265
    have t16 := mA.wq.wd (i := p) pN (show 8 < 12 by omega)
    have t17 := mA.wq.wd (i := p) pN (show 9 < 12 by omega)
    have t14 := mA.wq.wd (i := p) pN (show 6 < 12 by omega)
    have hid : ∀ q : Option (Int32 × sh_X), (sh_bn q fun r m => some (r, m)) = q := by
      intro q
      rcases q with _ | ⟨r, m⟩ <;> rfl
    rw [show sf_256 (mm.I 66 21) 16 (mm.T, sh_u2 mm.I 66 21 (mm.I 66 21 + 1), mm.J, mm.s) = some (decide (K p = Int32.ofNat (4 + 8))) by rw [hb.pm.at_] at t16 ⊢; exact t16, sh_bc_some, decide_eq_false (show ¬ K p = Int32.ofNat (4 + 8) by rw [hK]; decide), if_neg (by simp), show sf_256 (mm.I 66 21) 17 (mm.T, sh_u2 mm.I 66 21 (mm.I 66 21 + 1), mm.J, mm.s) = some (decide (K p = Int32.ofNat (4 + 9))) by rw [hb.pm.at_] at t17 ⊢; exact t17, sh_bc_some, decide_eq_false (show ¬ K p = Int32.ofNat (4 + 9) by rw [hK]; decide), if_neg (by simp), show sf_256 (mm.I 66 21) 14 (mm.T, sh_u2 mm.I 66 21 (mm.I 66 21 + 1), mm.J, mm.s) = some (decide (K p = Int32.ofNat (4 + 6))) by rw [hb.pm.at_] at t14 ⊢; exact t14, sh_bc_some, decide_eq_true (show K p = Int32.ofNat (4 + 6) from hK), if_pos rfl, hid]
    show sf_275 (sq_242 v) (mm.I 66 21) (Int32.ofNat d) _ = _
    unfold sf_275
    rw [e1, sh_bn_some]
    simp only [if_pos hok, sh_nIc (show g < 2147483648 by omega)]
    rw [sh_nI1]
  rw [ec, em]
  have hbx : sh_Pb N K P V (p + 1) (c + 1) 0 (g + 1) m2 n1 := sh_Pb.mk cA e2 (by omega) (by omega)
  rcases sh_pthen (d := d) (x := 74) (k := 123) (g0 := g) (kc := fun m11 => sh_bn (sf_56 7 (Int32.ofNat (p + 1)) 0 m11) fun r2 m12 => sh_bt (sf_48 123 m12) (fun m => (none, m)) fun _ m11 => sh_bt ((sq_48 u).f53 (Int32.ofNat (d + 1)) m11) (fun m => (none, m)) fun _ m12 => sh_bt (sf_48 125 m12) (fun m => (none, m)) fun _ m13 => sh_bc (sf_45 m13) fun r4 => if r4 = 6 then sh_bn (sf_56 8 (m13.I 39 4) 0 m13) fun r5 m15 => sh_bt (sf_48 123 (m15.T, sh_u2 m15.I 39 4 (m15.I 39 4 + 1), m15.J, m15.s)) (fun m => (none, m)) fun _ m11 => sh_bt ((sq_48 u).f53 (Int32.ofNat (d + 1)) m11) (fun m => (none, m)) fun _ m12 => sh_bt (sf_48 125 m12) (fun m => (none, m)) fun _ m13 => sf_71_76 (sq_48 (u + 1)) (Int32.ofNat (p + 1)) m13 else sf_71_76 (sq_48 (u + 1)) (Int32.ofNat (p + 1)) m13) (km := fun m2 => sh_bn ((sq_242 v).f264 (Int32.ofNat (d + 1)) m2) fun r m => if sh_u2 m.I 75 g r 75 g = -2 then some (-1, ((m.T, sh_u2 m.I 75 g r, m.J, m.s) : sh_X)) else sh_bn (sf_262 125 (m.T, sh_u2 m.I 75 g r, m.J, m.s)) fun r2 m15 => if r2 = true then
                  (sh_bc (sf_256 (m15.I 66 21) 11 m15) fun r6 =>
                  if r6 = true then
                    sh_bn (sf_262 123 ⟨m15.T, sh_u2 m15.I 66 21 ((m15.I 66 21) + 1), m15.J, m15.s⟩) fun r7 m17 =>
                    if r7 = true then
                      (sh_bn ((sq_242 v).f264 (Int32.ofNat (d + 1)) m17) fun r m => if sh_u2 m.I 76 g r 76 g = -2 then some (-1, ((m.T, sh_u2 m.I 76 g r, m.J, m.s) : sh_X)) else sh_bn (sf_262 125 (m.T, sh_u2 m.I 76 g r, m.J, m.s)) fun r2 m2 => if r2 = true then some (Int32.ofNat g, m2) else some (-1, m2))
                    else
                      some (((-1), m17))
                  else
                    some ((Int32.ofNat g, m15)))
                else some (-1, m15)) hT (by omega) hbx (by omega) (Or.inl rfl) (by decide) (show 300 ≤ sh_dp by unfold sh_dp; omega) with ⟨z, mcf, mmf, z1, z2, z3, z4, z5⟩ | ⟨z, mc4, mmf, z1, z2, z3, ⟨c4, z4, z4b, z4c⟩, z5, z6, z7⟩ | ⟨mc4, mm4, p4, c4, g4, e, ht, z1, z2, z3, z4, z5, z6, z7, z8, z9, z10, z11, z12, z13, z14, z15, z16, z17⟩
  · exact Or.inl ⟨z, mcf, mmf, z1, z2, z3, z4.of (cF2 0), z5.of mF2⟩
  · obtain ⟨m6, k1, k2, k3, k4, k5, k6⟩ := sh_56 (a := 7) (x := Int32.ofNat (p + 1)) (y := 0) z4 (by omega)
    refine Or.inl ⟨z, _, mmf, z1, z2.trans ?_, z3, ((k2.bad.of (k3 0)).of z5).of (cF2 0), z6.of mF2⟩
    show sh_bn (sf_56 7 (Int32.ofNat (p + 1)) 0 mc4) _ = _
    rw [k1, sh_bn_some, sh_48f k2 z7]
    rfl
  · obtain ⟨m6, k1, k2, k3, k4, k5, k6⟩ := sh_56 (a := 7) (x := Int32.ofNat (p + 1)) (y := 0) z5 (by omega)
    obtain ⟨m7, l1, l2, l3⟩ := sh_48t k2 z3 z4
    have re := sh_R_e z13
    have cF7 : sh_Cf c 0 mc m7 := (cF2 0).trans (z7.trans ((k3 0).trans (l3 c4 0) (Nat.le_refl _) (Nat.le_refl _)) (by omega) (Nat.le_refl _)) (by omega) (Nat.le_refl _)
    have mF7 : sh_Mf g mm mm4 := mF2.trans z8 (Nat.le_refl _)
    have hb7 : sh_Qb N K P V (p4 + 1) (c4 + 1) g4 m7 mm4 := sh_Qb.mk l2 z6 (by omega) (by omega)
    rw [z1, z2]
    show sh_Sp N K P V d p c g mc mm (sh_bn (sf_56 7 (Int32.ofNat (p + 1)) 0 mc4) _) _
    rw [k1, sh_bn_some, l1]
    show sh_Sp N K P V d p c g mc mm (sh_bt ((sq_48 u).f53 (Int32.ofNat (d + 1)) m7) _ _) _
    -- the code of the beginning, in any later memory
    have cdx : ∀ m9 : sh_X, sh_Cf (c4 + 1) 0 m7 m9 → (m9.I 36 c = 0 ∧ m9.I 37 c = Int32.ofNat p) ∧ (m9.I 36 c4 = 7 ∧ m9.I 37 c4 = Int32.ofNat (p + 1)) ∧ ∀ y, c + 1 ≤ y → y < c4 → m9.I 36 y = mc4.I 36 y ∧ m9.I 37 y = mc4.I 37 y ∧ m9.I 38 y = mc4.I 38 y := by
      intro m9 f
      have q1 := f.cd c (by omega)
      have q2 := (l3 (c4 + 1) 0).cd c (by omega)
      have q3 := (k3 0).cd c (by omega)
      have q4 := z7.cd c (by omega)
      have q5 := (cF (c + 1) 0).cd c (by omega)
      have r1 := f.cd c4 (by omega)
      have r2 := (l3 (c4 + 1) 0).cd c4 (by omega)
      refine ⟨⟨(q1.1.trans (q2.1.trans (q3.1.trans (q4.1.trans q5.1)))).trans a4, ((q1.2.1.trans (q2.2.1.trans (q3.2.1.trans (q4.2.1.trans q5.2.1)))).trans a5).trans hb.pc.at_⟩, ⟨(r1.1.trans r2.1).trans k4, (r1.2.1.trans r2.2.1).trans k5⟩, fun y y1 y2 => ?_⟩
      have s1 := f.cd y (by omega)
      have s2 := (l3 (c4 + 1) 0).cd y (by omega)
      have s3 := (k3 0).cd y (by omega)
      exact ⟨s1.1.trans (s2.1.trans s3.1), s1.2.1.trans (s2.2.1.trans s3.2.1), s1.2.2.trans (s2.2.2.trans s3.2.2)⟩
    rcases sh_pblk (x := 75) (g0 := g) (kc := fun m13 => sh_bc (sf_45 m13) fun r4 => if r4 = 6 then sh_bn (sf_56 8 (m13.I 39 4) 0 m13) fun r5 m15 => sh_bt (sf_48 123 (m15.T, sh_u2 m15.I 39 4 (m15.I 39 4 + 1), m15.J, m15.s)) (fun m => (none, m)) fun _ m11 => sh_bt ((sq_48 u).f53 (Int32.ofNat (d + 1)) m11) (fun m => (none, m)) fun _ m12 => sh_bt (sf_48 125 m12) (fun m => (none, m)) fun _ m13 => sf_71_76 (sq_48 (u + 1)) (Int32.ofNat (p + 1)) m13 else sf_71_76 (sq_48 (u + 1)) (Int32.ofNat (p + 1)) m13) (km := fun m15 => sh_bc (sf_256 (m15.I 66 21) 11 m15) fun r6 =>
                  if r6 = true then
                    sh_bn (sf_262 123 ⟨m15.T, sh_u2 m15.I 66 21 ((m15.I 66 21) + 1), m15.J, m15.s⟩) fun r7 m17 =>
                    if r7 = true then
                      (sh_bn ((sq_242 v).f264 (Int32.ofNat (d + 1)) m17) fun r m => if sh_u2 m.I 76 g r 76 g = -2 then some (-1, ((m.T, sh_u2 m.I 76 g r, m.J, m.s) : sh_X)) else sh_bn (sf_262 125 (m.T, sh_u2 m.I 76 g r, m.J, m.s)) fun r2 m2 => if r2 = true then some (Int32.ofNat g, m2) else some (-1, m2))
                    else
                      some (((-1), m17))
                  else
                    some ((Int32.ofNat g, m15))) hT hS (show 4 * (41 - (d + 1)) + 2 ≤ u by omega) (show 3 * (41 - (d + 1)) + 1 ≤ v by omega) hb7 (by omega) (Or.inr (Or.inl rfl)) with ⟨z, mcf, mmf, w1, w2, w3, w4, w5⟩ | ⟨mc8, mm8, p8, c8, g8, ht8, y8, w1, w2, w3, w4, w5, w6, w7, w8, w9, w10, w11, w11b, w12, w13, w14, w15⟩
    · exact Or.inl ⟨z, mcf, mmf, w1, w2, w3, w4.of cF7, w5.of mF7⟩
    · rw [w1, w2]
      have cF8 : sh_Cf c 0 mc mc8 := cF7.trans w6 (by omega) (Nat.le_refl _)
      have mF8 : sh_Mf g mm mm8 := mF7.trans w7 (Nat.le_refl _)
      have t11 := w5.wq.wd (i := p8 + 1) (by omega) (show 2 < 12 by omega)
      show sh_Sp N K P V d p c g mc mm (sh_bc (sf_45 mc8) _) (sh_bc (sf_256 (mm8.I 66 21) 11 mm8) _)
      rw [sh_45 w4, sh_bc_some, show sf_256 (mm8.I 66 21) 11 mm8 = some (decide (K (p8 + 1) = Int32.ofNat (4 + 2))) by rw [w5.at_]; exact t11, sh_bc_some]
      by_cases h6 : K (p8 + 1) = 6
      · -- with an else
        have hp9 : p8 + 1 < N := hT.lt (by omega) (by rw [h6]; decide)
        rw [if_pos h6, decide_eq_true (show K (p8 + 1) = Int32.ofNat (4 + 2) from h6), if_pos rfl]
        obtain ⟨m9, s1, s2, s3, s4, s5, s6⟩ := sh_56 (a := 8) (x := mc8.I 39 4) (y := 0) w4 (by omega)
        obtain ⟨cA9, cF9⟩ := sh_adv s2 hp9
        obtain ⟨mA9, mF9⟩ := sh_madv w5 hp9
        rw [s1, sh_bn_some]
        by_cases h123 : K (p8 + 1 + 1) = 123
        · have hp10 : p8 + 1 + 1 < N := hT.lt (by omega) (by rw [h123]; decide)
          obtain ⟨m10, t1, t2, t3⟩ := sh_48t cA9 h123 hp10
          obtain ⟨n10, v1, v2, v3⟩ := sh_262t mA9 (Or.inr (Or.inr (by decide))) h123 hp10
          rw [t1, v1, sh_bn_some, if_pos rfl]
          show sh_Sp N K P V d p c g mc mm (sh_bt ((sq_48 u).f53 (Int32.ofNat (d + 1)) m10) _ _) _
          have hb10 : sh_Qb N K P V (p8 + 1 + 1 + 1) (c8 + 1) g8 m10 n10 := sh_Qb.mk t2 v2 (by omega) (by omega)
          have cF10 : sh_Cf c8 0 mc8 m10 := (s3 0).trans ((cF9 c8 0).trans (t3 c8 0) (Nat.le_refl _) (Nat.le_refl _)) (Nat.le_refl _) (Nat.le_refl _)
          have mF10 : ∀ a, sh_Mf a mm8 n10 := fun a => (mF9 a).trans (v3 a) (Nat.le_refl _)
          rcases sh_pblk (x := 76) (g0 := g) (kc := fun m13 => sf_71_76 (sq_48 (u + 1)) (Int32.ofNat (p + 1)) m13) (km := fun m2 => some (Int32.ofNat g, m2)) hT hS (show 4 * (41 - (d + 1)) + 2 ≤ u by omega) (show 3 * (41 - (d + 1)) + 1 ≤ v by omega) hb10 (by omega) (Or.inr (Or.inr rfl)) with ⟨z, mcf, mmf, x1, x2, x3, x4, x5⟩ | ⟨mc11, mm11, p11, c11, g11, ht11, y11, x1, x2, x3, x4, x5, x6, x7, x8, x9, x10, x11, x11b, x12, x13, x14, x15⟩
          · exact Or.inl ⟨z, mcf, mmf, x1, x2, x3, (x4.of cF10).of cF8, (x5.of (mF10 0)).of mF8⟩
          · obtain ⟨m12, y1, y2, y3, y4, y5, y6⟩ := sh_56 (a := 9) (x := Int32.ofNat (p + 1)) (y := 0) x4 (by omega)
            refine Or.inr ⟨m12, mm11, p11 + 1, c11 + 1, g11, ht8 + ht11 + 1, x1.trans ?_, x2, sh_So.mk y2 x5 (cF8.trans (cF10.trans (x6.trans (y3 0) (by omega) (Nat.le_refl _)) (by omega) (Nat.le_refl _)) (by omega) (Nat.le_refl _)) (mF8.trans ((mF10 g).trans x7 (Nat.le_refl _)) (Nat.le_refl _)) (by omega) (by omega) (by omega) (by omega) ?_ ?_⟩
            · show sf_71_76 _ _ mc11 = _
              unfold sf_71_76
              rw [y1]
              rfl
            · have fall : sh_Cf (c4 + 1) 0 m7 m12 := w6.trans (cF10.trans (x6.trans (y3 0) (by omega) (Nat.le_refl _)) (by omega) (Nat.le_refl _)) (by omega) (Nat.le_refl _)
              have cx := cdx m12 fall
              -- the parts of the test and of the first block
              have po : ∀ x, g < x → x < g8 → ∀ y, 72 ≤ y → y ≤ 78 → mm11.I y x = mm8.I y x := by
                intro x h1 h2 y h3 h4
                rw [x15 x h1 h2 y h3 h4, (mF10 g8).pt x h2 y h3 h4]
              have po4 : ∀ x, g < x → x < g4 → ∀ y, 72 ≤ y → y ≤ 78 → mm11.I y x = mm4.I y x := by
                intro x h1 h2 y h3 h4
                rw [po x h1 (by omega) y h3 h4, w15 x h1 h2 y h3 h4]
              have pg : ∀ y, 72 ≤ y → y ≤ 78 → y ≠ 74 → y ≠ 75 → y ≠ 76 → mm11.I y g = n1.I y g := by
                intro y h1 h2 h3 h4 h5
                rw [x14 y h1 h2 h5, (mF10 (g + 1)).pt g (by omega) y h1 h2, w14 y h1 h2 h4, z16 y h1 h2 h3]
              have pg74 : mm11.I 74 g = Int32.ofNat e := by
                rw [x14 74 (by omega) (by omega) (by omega), (mF10 (g + 1)).pt g (by omega) 74 (by omega) (by omega), w14 74 (by omega) (by omega) (by omega)]
                exact z15
              have pg75 : mm11.I 75 g = y8 := by
                rw [x14 75 (by omega) (by omega) (by omega), (mF10 (g + 1)).pt g (by omega) 75 (by omega) (by omega)]
                exact w13
              have hls := (y3 0).cd c8 (by omega)
              have hls2 := x6.cd c8 (by omega)
              have hls3 := (t3 (c8 + 1) 0).cd c8 (by omega)
              have hls4 := (cF9 (c8 + 1) 0).cd c8 (by omega)
              unfold sp_S
              refine ⟨⟨Nat.le_refl _, by omega, hd, by omega, by omega, by omega⟩, ?_, cx.1.1, cx.1.2, Or.inr (Or.inr (Or.inr (Or.inr (Or.inl ⟨?_, ?_, e, ht, c4, c8, c8 + 1, g4, g8, p4, p8 + 2, pg74, ?_, by omega, by omega, by omega, by omega, by omega, by omega, by omega, by omega, by omega, cx.2.1.1, cx.2.1.2, ?_, ?_, Or.inr ⟨rfl, by omega, ?_, ?_⟩⟩))))⟩
              · rw [pg 73 (by omega) (by omega) (by omega) (by omega) (by omega), e5]; exact hb.pm.at_
              · rw [pg 72 (by omega) (by omega) (by omega) (by omega) (by omega), e4]
              · rw [show c11 + 1 - 1 = c11 by omega]; exact y4
              · rw [po4 e (by omega) re.2.1 78 (by omega) (by omega)]; exact z14
              · exact sh_R_fr z13 (fun x h1 h2 y h3 h4 => po4 x (by omega) h2 y h3 h4) cx.2.2
              · rw [pg75]
                refine sh_Sl_fr w12 (by omega) (Nat.le_refl _) (Nat.le_refl _) (Nat.le_refl _) (by omega) (fun x h1 h2 y h3 h4 => po x (by omega) h2 y h3 h4) (fun y h1 h2 => ?_)
                have q1 := (y3 0).cd y (by omega)
                have q2 := x6.cd y (by omega)
                have q3 := cF10.cd y (by omega)
                exact ⟨q1.1.trans (q2.1.trans q3.1), q1.2.1.trans (q2.2.1.trans q3.2.1), q1.2.2.trans (q2.2.2.trans q3.2.2)⟩
              · exact (hls.1.trans (hls2.1.trans (hls3.1.trans hls4.1))).trans s4
              · rw [show c11 + 1 - 1 = c11 by omega, x13]
                exact sh_Sl_fr x12 (by omega) (Nat.le_refl _) (Nat.le_refl _) (by omega) (by omega) (fun _ _ _ _ _ _ => rfl) (fun y h1 h2 => (y3 0).cd y (by omega))
            · rw [x14 77 (by omega) (by omega) (by omega), (mF10 (g + 1)).pt g (by omega) 77 (by omega) (by omega), w14 77 (by omega) (by omega) (by omega), z16 77 (by omega) (by omega) (by omega)]
              exact e9
        · refine Or.inl ⟨p8 + 1 + 1, _, _, by omega, by rw [sh_48f cA9 h123]; rfl, by rw [sh_262f mA9 (Or.inr (Or.inr (by decide))) h123, sh_bn_some, if_neg (by simp)], ((cA9.bad.of (cF9 0 0)).of (s3 0)).of cF8, (mA9.bad.of (mF9 0)).of mF8⟩
      · rw [if_neg h6, decide_eq_false (show ¬ K (p8 + 1) = Int32.ofNat (4 + 2) from h6), if_neg (by simp)]
        obtain ⟨m12, y1, y2, y3, y4, y5, y6⟩ := sh_56 (a := 9) (x := Int32.ofNat (p + 1)) (y := 0) w4 (by omega)
        refine Or.inr ⟨m12, mm8, p8 + 1, c8 + 1, g8, ht8 + 1, ?_, rfl, sh_So.mk y2 w5 (cF8.trans (y3 0) (by omega) (Nat.le_refl _)) mF8 (by omega) (by omega) (by omega) (by omega) ?_ ?_⟩
        · unfold sf_71_76
          rw [y1]
          rfl
        · have cx := cdx m12 (w6.trans (y3 0) (by omega) (Nat.le_refl _))
          have pg : ∀ y, 72 ≤ y → y ≤ 78 → y ≠ 74 → y ≠ 75 → mm8.I y g = n1.I y g := by
            intro y h1 h2 h3 h4
            rw [w14 y h1 h2 h4, z16 y h1 h2 h3]
          unfold sp_S
          refine ⟨⟨Nat.le_refl _, by omega, hd, by omega, by omega, by omega⟩, ?_, cx.1.1, cx.1.2, Or.inr (Or.inr (Or.inr (Or.inr (Or.inl ⟨?_, ?_, e, ht, c4, c8, c8 + 1, g4, g8, p4, p8, ?_, ?_, by omega, by omega, by omega, by omega, by omega, by omega, by omega, by omega, by omega, cx.2.1.1, cx.2.1.2, ?_, ?_, Or.inl ⟨by omega, ?_⟩⟩))))⟩
          · rw [pg 73 (by omega) (by omega) (by omega) (by omega), e5]; exact hb.pm.at_
          · rw [pg 72 (by omega) (by omega) (by omega) (by omega), e4]
          · rw [show c8 + 1 - 1 = c8 by omega]; exact y4
          · rw [w14 74 (by omega) (by omega) (by omega)]; exact z15
          · rw [w15 e (by omega) re.2.1 78 (by omega) (by omega)]; exact z14
          · exact sh_R_fr z13 (fun x h1 h2 y h3 h4 => w15 x (by omega) h2 y h3 h4) cx.2.2
          · rw [w13]
            exact sh_Sl_fr w12 (Nat.le_refl _) (Nat.le_refl _) (Nat.le_refl _) (Nat.le_refl _) (Nat.le_refl _) (fun _ _ _ _ _ _ => rfl) (fun y h1 h2 => (y3 0).cd y (by omega))
          · rw [pg 76 (by omega) (by omega) (by omega) (by omega), e8]
        · rw [w14 77 (by omega) (by omega) (by omega), z16 77 (by omega) (by omega) (by omega)]
          exact e9
end
