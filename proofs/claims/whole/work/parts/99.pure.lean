/-! PARSERS: for -/
section
variable {N : Nat} {K : Nat → Int32} {P V : Nat → Nat}
theorem sh_sfor {d p c g u v : Nat} {mc mm : sh_X} (hT : sh_Txt N K P V) (hd : d ≤ 40) (hS : sh_HS N K P V (d + 1)) (hu : 4 * (40 - d) + 2 ≤ u) (hv : 3 * (40 - d) + 1 ≤ v) (hb : sh_Qb N K P V p c g mc mm) (hK : K p = 9) : sh_Sp N K P V d p c g mc mm (sf_55_10 (sq_48 (u + 2)) (Int32.ofNat d) mc) (sf_265 (sq_242 (v + 1)) (Int32.ofNat d) mm) := by
  have n4 := hb.pc.N4
  have pN := hb.pc.pN
  have bc := hb.bc
  have bg := hb.bg
  have hp : p < N := hT.lt pN (by rw [hK]; decide)
  obtain ⟨m1, a1, a2, a3, a4, a5, a6⟩ := sh_56 (a := 0) (x := mc.I 39 4) (y := 0) hb.pc (by omega)
  obtain ⟨cA, cF⟩ := sh_adv a2 hp
  obtain ⟨mA, mF⟩ := sh_madv hb.pm hp
  obtain ⟨n1, e1, e2, e3, e4, e5, e6, e7, e8, e9, e10⟩ := sh_266 (k := 23) (t := mm.I 66 21) (a := -1) (b := mm.I 66 21 + 1) mA (by omega)
  obtain ⟨m2, hm2⟩ : ∃ m2 : sh_X, m2 = (m1.T, sh_u2 m1.I 39 4 (m1.I 39 4 + 1), m1.J, m1.s) := ⟨_, rfl⟩
  rw [← hm2] at cA cF
  have hok : sh_okb (Int32.ofNat g) 9000 = true := (sh_okn (by omega)).mpr (by omega)
  have cF2 : ∀ b, sh_Cf c b mc m2 := fun b => (a3 b).trans (cF c b) (Nat.le_refl _) (Nat.le_refl _)
  have mF2 : sh_Mf g mm n1 := (mF g).trans e3 (Nat.le_refl _)
  have ec : sf_55_10 (sq_48 (u + 2)) (Int32.ofNat d) mc = sh_bt (sf_48 1 m2) (fun m => (none, m)) fun _ m11 => sh_bt (sf_48 11 m11) (fun m => (none, m)) fun _ m12 => sh_bt (sf_48 2 m12) (fun m => (none, m)) fun _ m13 => sh_bt (sf_48 11822 m13) (fun m => (none, m)) fun _ m14 => sh_bt (sf_48 2 m14) (fun m => (none, m)) fun _ m15 => sh_bn (sf_56 10 (Int32.ofNat (p + 1)) 0 m15) fun r6 m16 => sh_bt (sf_48 123 m16) (fun m => (none, m)) fun _ m11 => sh_bt ((sq_48 u).f53 (Int32.ofNat (d + 1)) m11) (fun m => (none, m)) fun _ m12 => sh_bt (sf_48 125 m12) (fun m => (none, m)) fun _ m17 => sh_bn (sf_56 11 (Int32.ofNat (p + 1)) r6 m17) fun r8 m18 => sh_bn (sf_63 r6 (m18.I 28 10) m18) fun _ m19 => some ((some (), m19)) := by
    have e72 : ∀ (m : sh_X) (k : sh_X → Option (Option Unit × sh_X)), (sh_bt ((sq_48 (u + 1)).f72 (Int32.ofNat d) m) (fun m => (none, m)) fun _ m => k m) = sh_bt (sf_48 123 m) (fun m => (none, m)) fun _ m11 => sh_bt ((sq_48 u).f53 (Int32.ofNat (d + 1)) m11) (fun m => (none, m)) fun _ m12 => sh_bt (sf_48 125 m12) (fun m => (none, m)) fun _ m13 => k m13 := by
      intro m k
      show sh_bt (sf_72 (sq_48 u) (Int32.ofNat d) m) _ _ = _
      unfold sf_72
      rw [sh_nI1, sh_bt_as]
      congr 1
      funext _ m
      rw [sh_bt_as]
      congr 1
      funext _ m
      rw [sh_bt_as]
      rfl
    unfold sf_55_10
    rw [a1, sh_bn_some, sh_45 a2, sh_bc_some, if_pos hK, sh_idt]
    show sf_73 (sq_48 (u + 1)) (Int32.ofNat d) m1 = _
    unfold sf_73
    rw [← hm2, a2.at_, sh_nI1]
    congr 1
    funext _ m
    congr 1
    funext _ m
    congr 1
    funext _ m
    congr 1
    funext _ m
    congr 1
    funext _ m
    congr 1
    funext _ m
    rw [e72]
  have em : sf_265 (sq_242 (v + 1)) (Int32.ofNat d) mm = sh_bn (sf_258 n1) fun r2 m12 => if r2 = true then sh_bn (sf_277 15 m12) fun r3 m13 => if r3 = true then sh_bn (sf_262 2 ⟨m13.T, sh_u2 m13.I 76 g (m13.I 66 21), m13.J, m13.s⟩) fun r4 m14 => if r4 = true then sh_bn (sf_262 11822 m14) fun r5 m15 => if r5 = true then sh_bn (sf_262 2 m15) fun r6 m16 => if r6 = true then sh_bn (sf_262 123 m16) fun r7 m17 => if r7 = true then
          (sh_bn ((sq_242 v).f264 (Int32.ofNat (d + 1)) m17) fun r m => if sh_u2 m.I 74 g r 74 g = -2 then some (-1, ((m.T, sh_u2 m.I 74 g r, m.J, m.s) : sh_X)) else sh_bn (sf_262 125 (m.T, sh_u2 m.I 74 g r, m.J, m.s)) fun r2 m2 => if r2 = true then some (Int32.ofNat g, m2) else some (-1, m2))
          else some (-1, m17) else some (-1, m16) else some (-1, m15) else some (-1, m14) else some (-1, m13) else some (-1, m12) := by
    unfold sf_265
    have t16 := mA.wq.wd (i := p) pN (show 8 < 12 by omega)
    have t17 := mA.wq.wd (i := p) pN (show 9 < 12 by omega)
    have t14 := mA.wq.wd (i := p) pN (show 6 < 12 by omega)
    have t13 := mA.wq.wd (i := p) pN (show 5 < 12 by omega)
    have hid : ∀ q : Option (Int32 × sh_X), (sh_bn q fun r m => some (r, m)) = q := by
      intro q
      rcases q with _ | ⟨r, m⟩ <;> rfl
    rw [show sf_256 (mm.I 66 21) 16 (mm.T, sh_u2 mm.I 66 21 (mm.I 66 21 + 1), mm.J, mm.s) = some (decide (K p = Int32.ofNat (4 + 8))) by rw [hb.pm.at_] at t16 ⊢; exact t16, sh_bc_some, decide_eq_false (show ¬ K p = Int32.ofNat (4 + 8) by rw [hK]; decide), if_neg (by simp), show sf_256 (mm.I 66 21) 17 (mm.T, sh_u2 mm.I 66 21 (mm.I 66 21 + 1), mm.J, mm.s) = some (decide (K p = Int32.ofNat (4 + 9))) by rw [hb.pm.at_] at t17 ⊢; exact t17, sh_bc_some, decide_eq_false (show ¬ K p = Int32.ofNat (4 + 9) by rw [hK]; decide), if_neg (by simp), show sf_256 (mm.I 66 21) 14 (mm.T, sh_u2 mm.I 66 21 (mm.I 66 21 + 1), mm.J, mm.s) = some (decide (K p = Int32.ofNat (4 + 6))) by rw [hb.pm.at_] at t14 ⊢; exact t14, sh_bc_some, decide_eq_false (show ¬ K p = Int32.ofNat (4 + 6) by rw [hK]; decide), if_neg (by simp), show sf_256 (mm.I 66 21) 13 (mm.T, sh_u2 mm.I 66 21 (mm.I 66 21 + 1), mm.J, mm.s) = some (decide (K p = Int32.ofNat (4 + 5))) by rw [hb.pm.at_] at t13 ⊢; exact t13, sh_bc_some, decide_eq_true (show K p = Int32.ofNat (4 + 5) from hK), if_pos rfl, hid]
    show sf_276 (sq_242 v) (mm.I 66 21) (Int32.ofNat d) _ = _
    unfold sf_276
    rw [show sh_X.I (mm.T, sh_u2 mm.I 66 21 (mm.I 66 21 + 1), mm.J, mm.s) 66 21 = mm.I 66 21 + 1 by show sh_u2 mm.I 66 21 (mm.I 66 21 + 1) 66 21 = _; exact sh_u2_same, e1, sh_bn_some]
    simp only [if_pos hok, sh_nIc (show g < 2147483648 by omega)]
    rw [sh_nI1]
  rw [ec, em]
  rcases Classical.em (¬ K (p + 1) = 1) with k1 | k1
  · exact Or.inl ⟨p + 1, _, _, by omega, by rw [sh_48f cA k1]; rfl, by rw [sh_258f e2 k1, sh_bn_some, if_neg (by simp)], cA.bad.of (cF2 0), e2.bad.of mF2⟩
  replace k1 := Decidable.of_not_not k1
  have hp1 : p + 1 < N := hT.lt (by omega) (by rw [k1]; decide)
  obtain ⟨c1, b1, b2, b3⟩ := sh_48t cA k1 hp1
  obtain ⟨g1, d1, d2, d3⟩ := sh_258t e2 k1 hp1
  rw [b1, d1, sh_bn_some, if_pos rfl]
  show sh_Sp N K P V d p c g mc mm (sh_bt (sf_48 11 c1) _ _) _
  have cF3 : ∀ b, sh_Cf c b mc c1 := fun b => (cF2 b).trans (b3 c b) (Nat.le_refl _) (Nat.le_refl _)
  have mF3 : sh_Mf g mm g1 := mF2.trans (d3 g) (Nat.le_refl _)
  rcases Classical.em (¬ K (p + 1 + 1) = 11) with k2 | k2
  · exact Or.inl ⟨p + 1 + 1, _, _, by omega, by rw [sh_48f b2 k2]; rfl, by rw [show sf_277 15 g1 = _ from sh_277f (j := 7) d2 (by omega) k2, sh_bn_some, if_neg (by simp)], b2.bad.of (cF3 0), d2.bad.of mF3⟩
  replace k2 := Decidable.of_not_not k2
  have hp2 : p + 1 + 1 < N := hT.lt (by omega) (by rw [k2]; decide)
  obtain ⟨c2, f1, f2, f3⟩ := sh_48t b2 k2 hp2
  obtain ⟨g2, i1, i2, i3⟩ := sh_277t (j := 7) d2 (by omega) k2 hp2
  rw [f1, show sf_277 15 g1 = _ from i1, sh_bn_some, if_pos rfl]
  show sh_Sp N K P V d p c g mc mm (sh_bt (sf_48 2 c2) _ _) _
  have cF4 : ∀ b, sh_Cf c b mc c2 := fun b => (cF3 b).trans (f3 c b) (Nat.le_refl _) (Nat.le_refl _)
  obtain ⟨i4, i5⟩ := sh_pset (e := g) (x := 76) (v := g2.I 66 21) i2 (by omega)
  obtain ⟨g3, hg3⟩ : ∃ g3 : sh_X, g3 = (g2.T, sh_u2 g2.I 76 g (g2.I 66 21), g2.J, g2.s) := ⟨_, rfl⟩
  rw [← hg3] at i4 i5 ⊢
  have g376 : g3.I 76 g = Int32.ofNat (p + 3) := by
    rw [hg3]
    show sh_u2 g2.I 76 g (g2.I 66 21) 76 g = _
    rw [sh_u2_same]
    exact i2.at_
  have g3o : ∀ y, 72 ≤ y → y ≤ 78 → y ≠ 76 → g3.I y g = g2.I y g := by
    intro y h1 h2 h3
    rw [hg3]
    show sh_u2 g2.I 76 g (g2.I 66 21) y g = _
    rw [sh_u2_cell h3]
  have mF4 : sh_Mf g mm g3 := mF3.trans ((i3 g).trans i5 (Nat.le_refl _)) (Nat.le_refl _)
  rcases Classical.em (¬ K (p + 1 + 1 + 1) = 2) with k3 | k3
  · exact Or.inl ⟨p + 1 + 1 + 1, _, _, by omega, by rw [sh_48f f2 k3]; rfl, by rw [sh_262f i4 (Or.inr (Or.inl rfl)) k3, sh_bn_some, if_neg (by simp)], f2.bad.of (cF4 0), i4.bad.of mF4⟩
  replace k3 := Decidable.of_not_not k3
  have hp3 : p + 1 + 1 + 1 < N := hT.lt (by omega) (by rw [k3]; decide)
  obtain ⟨c3, j1, j2, j3⟩ := sh_48t f2 k3 hp3
  obtain ⟨g4, l1, l2, l3⟩ := sh_262t i4 (Or.inr (Or.inl rfl)) k3 hp3
  rw [j1, l1, sh_bn_some, if_pos rfl]
  show sh_Sp N K P V d p c g mc mm (sh_bt (sf_48 11822 c3) _ _) _
  have cF5 : ∀ b, sh_Cf c b mc c3 := fun b => (cF4 b).trans (j3 c b) (Nat.le_refl _) (Nat.le_refl _)
  have mF5 : sh_Mf g mm g4 := mF4.trans (l3 g) (Nat.le_refl _)
  rcases Classical.em (¬ K (p + 1 + 1 + 1 + 1) = 11822) with k4 | k4
  · exact Or.inl ⟨p + 1 + 1 + 1 + 1, _, _, by omega, by rw [sh_48f j2 k4]; rfl, by rw [sh_262f l2 (Or.inr (Or.inr (by decide))) k4, sh_bn_some, if_neg (by simp)], j2.bad.of (cF5 0), l2.bad.of mF5⟩
  replace k4 := Decidable.of_not_not k4
  have hp4 : p + 1 + 1 + 1 + 1 < N := hT.lt (by omega) (by rw [k4]; decide)
  obtain ⟨c4, o1, o2, o3⟩ := sh_48t j2 k4 hp4
  obtain ⟨g5, q1, q2, q3⟩ := sh_262t l2 (Or.inr (Or.inr (by decide))) k4 hp4
  rw [o1, q1, sh_bn_some, if_pos rfl]
  show sh_Sp N K P V d p c g mc mm (sh_bt (sf_48 2 c4) _ _) _
  have cF6 : ∀ b, sh_Cf c b mc c4 := fun b => (cF5 b).trans (o3 c b) (Nat.le_refl _) (Nat.le_refl _)
  have mF6 : sh_Mf g mm g5 := mF5.trans (q3 g) (Nat.le_refl _)
  rcases Classical.em (¬ K (p + 1 + 1 + 1 + 1 + 1) = 2) with k5 | k5
  · exact Or.inl ⟨p + 1 + 1 + 1 + 1 + 1, _, _, by omega, by rw [sh_48f o2 k5]; rfl, by rw [sh_262f q2 (Or.inr (Or.inl rfl)) k5, sh_bn_some, if_neg (by simp)], o2.bad.of (cF6 0), q2.bad.of mF6⟩
  replace k5 := Decidable.of_not_not k5
  have hp5 : p + 1 + 1 + 1 + 1 + 1 < N := hT.lt (by omega) (by rw [k5]; decide)
  obtain ⟨c5, r1, r2, r3⟩ := sh_48t o2 k5 hp5
  obtain ⟨g6, s1, s2, s3⟩ := sh_262t q2 (Or.inr (Or.inl rfl)) k5 hp5
  rw [r1, s1, sh_bn_some, if_pos rfl]
  show sh_Sp N K P V d p c g mc mm (sh_bn (sf_56 10 (Int32.ofNat (p + 1)) 0 c5) _) _
  have cF7 : ∀ b, sh_Cf c b mc c5 := fun b => (cF6 b).trans (r3 c b) (Nat.le_refl _) (Nat.le_refl _)
  have mF7 : sh_Mf g mm g6 := mF6.trans (s3 g) (Nat.le_refl _)
  obtain ⟨c6, t1, t2, t3, t4, t5, t6⟩ := sh_56 (a := 10) (x := Int32.ofNat (p + 1)) (y := 0) r2 (by omega)
  rw [t1, sh_bn_some]
  have cF8 : sh_Cf c 0 mc c6 := (cF7 0).trans (t3 0) (by omega) (Nat.le_refl _)
  rcases Classical.em (¬ K (p + 1 + 1 + 1 + 1 + 1 + 1) = 123) with k6 | k6
  · exact Or.inl ⟨p + 1 + 1 + 1 + 1 + 1 + 1, _, _, by omega, by rw [sh_48f t2 k6]; rfl, by rw [sh_262f s2 (Or.inr (Or.inr (by decide))) k6, sh_bn_some, if_neg (by simp)], t2.bad.of cF8, s2.bad.of mF7⟩
  replace k6 := Decidable.of_not_not k6
  have hp6 : p + 1 + 1 + 1 + 1 + 1 + 1 < N := hT.lt (by omega) (by rw [k6]; decide)
  obtain ⟨c7, v1, v2, v3⟩ := sh_48t t2 k6 hp6
  obtain ⟨g7, w1, w2, w3⟩ := sh_262t s2 (Or.inr (Or.inr (by decide))) k6 hp6
  rw [v1, w1, sh_bn_some, if_pos rfl]
  show sh_Sp N K P V d p c g mc mm (sh_bt ((sq_48 u).f53 (Int32.ofNat (d + 1)) c7) _ _) _
  have cF9 : sh_Cf c 0 mc c7 := cF8.trans (v3 c 0) (Nat.le_refl _) (Nat.le_refl _)
  have mF8 : sh_Mf g mm g7 := mF7.trans (w3 g) (Nat.le_refl _)
  have hb7 : sh_Qb N K P V (p + 1 + 1 + 1 + 1 + 1 + 1 + 1) (c + 1 + 1) (g + 1) c7 g7 := sh_Qb.mk v2 w2 (by omega) (by omega)
  have g7g : ∀ y, 72 ≤ y → y ≤ 78 → g7.I y g = g3.I y g := by
    intro y h1 h2
    rw [(w3 (g + 1)).pt g (by omega) y h1 h2, (s3 (g + 1)).pt g (by omega) y h1 h2, (q3 (g + 1)).pt g (by omega) y h1 h2, (l3 (g + 1)).pt g (by omega) y h1 h2]
  have g7n : ∀ y, 72 ≤ y → y ≤ 78 → y ≠ 76 → g7.I y g = n1.I y g := by
    intro y h1 h2 h3
    rw [g7g y h1 h2, g3o y h1 h2 h3, (i3 (g + 1)).pt g (by omega) y h1 h2, (d3 (g + 1)).pt g (by omega) y h1 h2]
  rcases sh_pblk (x := 74) (g0 := g) (kc := fun m17 => sh_bn (sf_56 11 (Int32.ofNat (p + 1)) (Int32.ofNat (c + 1)) m17) fun r8 m18 => sh_bn (sf_63 (Int32.ofNat (c + 1)) (m18.I 28 10) m18) fun _ m19 => some ((some (), m19))) (km := fun m2 => some (Int32.ofNat g, m2)) hT hS (show 4 * (41 - (d + 1)) + 2 ≤ u by omega) (show 3 * (41 - (d + 1)) + 1 ≤ v by omega) hb7 (by omega) (Or.inl rfl) with ⟨z, mcf, mmf, x1, x2, x3, x4, x5⟩ | ⟨mc8, mm8, p8, c8, g8, ht8, y8, x1, x2, x3, x4, x5, x6, x7, x8, x9, x10, x11, x11b, x12, x13, x14, x15⟩
  · exact Or.inl ⟨z, mcf, mmf, x1, x2, x3, x4.of cF9, x5.of mF8⟩
  · obtain ⟨m9, y1, y2, y3, y4, y5, y6⟩ := sh_56 (a := 11) (x := Int32.ofNat (p + 1)) (y := Int32.ofNat (c + 1)) x4 (by omega)
    obtain ⟨m10, z1, z2, z3, z4, z5, z6, z7⟩ := sh_63 (k := c + 1) (y := m9.I 28 10) y2 (by omega) (by omega)
    refine Or.inr ⟨m10, mm8, p8 + 1, c8 + 1, g8, ht8 + 1, x1.trans ?_, x2, sh_So.mk z2 x5 (((cF9.trans (x6.less (show c ≤ c + 1 + 1 by omega) (Nat.le_refl _)) (Nat.le_refl _) (Nat.le_refl _)).trans ((y3 0).less (show c ≤ c8 by omega) (Nat.le_refl _)) (Nat.le_refl _) (Nat.le_refl _)).trans ((z3 0).less (show c ≤ c + 1 by omega) (Nat.le_refl _)) (Nat.le_refl _) (Nat.le_refl _)) (mF8.trans x7 (Nat.le_refl _)) (by omega) (by omega) (by omega) (by omega) ?_ ?_⟩
    · show sh_bn (sf_56 11 _ _ mc8) _ = _
      rw [y1, sh_bn_some, z1]
      rfl
    · -- the code
      have cdo : ∀ y, y < c8 → y ≠ c + 1 → m10.I 36 y = mc8.I 36 y ∧ m10.I 37 y = mc8.I 37 y ∧ m10.I 38 y = mc8.I 38 y := by
        intro y h1 h2
        have q1 := (y3 0).cd y h1
        exact ⟨(congrFun z5 y).trans q1.1, (congrFun z6 y).trans q1.2.1, (z7 y h2).trans q1.2.2⟩
      have l0 := cdo c (by omega) (by omega)
      have l1' := x6.cd c (by omega)
      have l2' := (v3 (c + 1 + 1) 0).cd c (by omega)
      have l3' := (t3 0).cd c (by omega)
      have l4' : c5.I 36 c = m1.I 36 c ∧ c5.I 37 c = m1.I 37 c := by
        have q1 := (r3 (c + 1) 0).cd c (by omega)
        have q2 := (o3 (c + 1) 0).cd c (by omega)
        have q3 := (j3 (c + 1) 0).cd c (by omega)
        have q4 := (f3 (c + 1) 0).cd c (by omega)
        have q5 := (b3 (c + 1) 0).cd c (by omega)
        have q6 := (cF (c + 1) 0).cd c (by omega)
        exact ⟨q1.1.trans (q2.1.trans (q3.1.trans (q4.1.trans (q5.1.trans q6.1)))), q1.2.1.trans (q2.2.1.trans (q3.2.1.trans (q4.2.1.trans (q5.2.1.trans q6.2.1))))⟩
      have n0 := (y3 0).cd (c + 1) (by omega)
      have n1' := x6.cd (c + 1) (by omega)
      have n2' := (v3 (c + 1 + 1) 0).cd (c + 1) (by omega)
      have m10c8 : m10.I 36 c8 = 11 ∧ m10.I 37 c8 = Int32.ofNat (p + 1) ∧ m10.I 38 c8 = Int32.ofNat (c + 1) := ⟨(congrFun z5 c8).trans y4, (congrFun z6 c8).trans y5, (z7 c8 (by omega)).trans y6⟩
      unfold sp_S
      refine ⟨⟨Nat.le_refl _, by omega, hd, by omega, by omega, by omega⟩, ?_, ?_, ?_, Or.inr (Or.inr (Or.inr (Or.inr (Or.inr ⟨?_, ?_, k1, ?_, k3, k5, by omega, ?_, ?_, ?_, ?_, ?_, ?_, by omega, ?_⟩))))⟩
      · rw [x14 73 (by omega) (by omega) (by omega), g7n 73 (by omega) (by omega) (by omega), e5]; exact hb.pm.at_
      · exact (l0.1.trans (l1'.1.trans (l2'.1.trans (l3'.1.trans l4'.1)))).trans a4
      · exact ((l0.2.1.trans (l1'.2.1.trans (l2'.2.1.trans (l3'.2.1.trans l4'.2)))).trans a5).trans hb.pc.at_
      · rw [x14 72 (by omega) (by omega) (by omega), g7n 72 (by omega) (by omega) (by omega), e4]
      · rw [x14 75 (by omega) (by omega) (by omega), g7n 75 (by omega) (by omega) (by omega), e7, hb.pm.at_, sh_nI1]
      · rw [x14 76 (by omega) (by omega) (by omega), g7g 76 (by omega) (by omega)]; exact g376
      · exact ((congrFun z5 (c + 1)).trans (n0.1.trans (n1'.1.trans n2'.1))).trans t4
      · exact ((congrFun z6 (c + 1)).trans (n0.2.1.trans (n1'.2.1.trans n2'.2.1))).trans t5
      · exact z4.trans y2.am
      · rw [show c8 + 1 - 1 = c8 by omega]; exact m10c8.1
      · rw [show c8 + 1 - 1 = c8 by omega]; exact m10c8.2.1
      · rw [show c8 + 1 - 1 = c8 by omega]; exact m10c8.2.2
      · rw [show c8 + 1 - 1 = c8 by omega, x13]
        exact sh_Sl_fr x12 (Nat.le_refl _) (Nat.le_refl _) (Nat.le_refl _) (by omega) (by omega) (fun _ _ _ _ _ _ => rfl) (fun y h1 h2 => cdo y h2 (by omega))
    · rw [x14 77 (by omega) (by omega) (by omega), g7n 77 (by omega) (by omega) (by omega)]
      exact e9
end
