/-! PARSERS: assignments -/
section
variable {N : Nat} {K : Nat → Int32} {P V : Nat → Nat}
theorem sh_dp1 : sh_dp = 999 + 1 := rfl
/-- from '=' on; the part is g, made before g1 -/
theorem sh_sset2 {d p c g pc1 c1 g1 : Nat} {x3 : Int32} {mc mm mc1 mm1 : sh_X} {Q2 : sh_Q242} (hT : sh_Txt N K P V) (hd : d ≤ 40) (hc : sp_Pc N K P V pc1 c1 0 mc1) (hm : sh_Pm N K P V pc1 g1 mm1) (hg : g < g1) (h3 : 3 * c1 ≤ 4 * pc1 + 90) (hg2 : g1 ≤ pc1 + 10) (cF : sh_Cf c 0 mc mc1) (mF : sh_Mf g mm mm1) (hcc : c ≤ c1) :
    (∃ z mcf mmf, z ≤ N ∧ sf_75_54 (Int32.ofNat d) (Int32.ofNat p) x3 mc1 = some (none, mcf) ∧ sf_265_261 Q2 (Int32.ofNat d) (Int32.ofNat g) mm1 = some (-1, mmf) ∧ sh_bdc P z mc mcf ∧ sh_bdm P z mm mmf) ∨
    (∃ mc2 mm2 p2 c2 g2 e ht, sf_75_54 (Int32.ofNat d) (Int32.ofNat p) x3 mc1 = some (some (), mc2) ∧ sf_265_261 Q2 (Int32.ofNat d) (Int32.ofNat g) mm1 = some (Int32.ofNat g, mm2) ∧
      sp_Pc N K P V (p2 + 1) (c2 + 1) 0 mc2 ∧ sh_Pm N K P V (p2 + 1) g2 mm2 ∧ sh_Cf c1 0 mc1 mc2 ∧ sh_Mf g mm1 mm2 ∧ pc1 + 1 < p2 ∧ 3 * (c2 + 1) + 4 * pc1 + 6 ≤ 3 * c1 + 4 * (p2 + 1) ∧ c1 ≤ c2 ∧ g2 + pc1 ≤ g1 + p2 ∧ p2 < N ∧
      sp_R N K V mm2.I mc2.I ht g1 g2 d e c1 c2 (pc1 + 1) p2 ∧ mm2.I 78 e = Int32.ofNat (pc1 + 1) ∧ mm2.I 74 g = Int32.ofNat e ∧ (∀ y, 72 ≤ y → y ≤ 78 → y ≠ 74 → mm2.I y g = mm1.I y g) ∧ (∀ z, g < z → z < g1 → ∀ y, 72 ≤ y → y ≤ 78 → mm2.I y z = mm1.I y z) ∧
      mc2.I 36 c2 = x3 ∧ mc2.I 37 c2 = Int32.ofNat p ∧ mc2.I 38 c2 = Int32.ofNat (pc1 + 1)) := by
  have n4 := hc.N4
  have pN := hc.pN
  have hok : sh_okb (Int32.ofNat g) 9000 = true := (sh_okn (by omega)).mpr (by omega)
  have em : sf_265_261 Q2 (Int32.ofNat d) (Int32.ofNat g) mm1 = sh_bn (sf_262 61 mm1) fun r4 m14 =>
      if r4 = true then
        sh_bn ((sq_240 sh_dp).f267 (Int32.ofNat d) m14) fun r m => if sh_u2 m.I 74 g r 74 g < 0 then some (-1, ((m.T, sh_u2 m.I 74 g r, m.J, m.s) : sh_X)) else sh_bn (sf_262 59 (m.T, sh_u2 m.I 74 g r, m.J, m.s)) fun r2 m2 => if r2 = true then some (Int32.ofNat g, m2) else some (-1, m2)
      else
        some (((-1), m14)) := by
    unfold sf_265_261
    simp only [if_pos hok, sh_nIc (show g < 2147483648 by omega)]
  rw [em]
  unfold sf_75_54
  by_cases h61 : K pc1 = 61
  · have hp2 : pc1 < N := hT.lt pN (by rw [h61]; decide)
    obtain ⟨m3, f1, f2, f3⟩ := sh_48t hc h61 hp2
    obtain ⟨n3, i1, i2, i3⟩ := sh_262t hm (Or.inr (Or.inr (by decide))) h61 hp2
    rw [f1, i1, sh_bn_some, if_pos rfl]
    have hbx : sh_Pb N K P V (pc1 + 1) c1 0 g1 m3 n3 := sh_Pb.mk f2 i2 (by omega) (by omega)
    show (∃ z mcf mmf, _ ∧ (sh_bt ((sq_44 sh_dp).f58 (Int32.ofNat d) m3) _ _) = _ ∧ _) ∨ (∃ mc2 mm2 p2 c2 g2 e ht, (sh_bt ((sq_44 sh_dp).f58 (Int32.ofNat d) m3) _ _) = _ ∧ _)
    rcases sh_pthen (d := d) (x := 74) (k := 59) (g0 := g) (kc := fun m12 => sh_bt (sf_48 59 m12) (fun m => (none, m)) fun _ m13 => sh_bn (sf_56 x3 (Int32.ofNat p) (m3.I 39 4) m13) fun r4 m14 => some ((some (), m14))) (km := fun m => some (Int32.ofNat g, m)) hT (by omega) hbx hg (Or.inl rfl) (by decide) (show 300 ≤ sh_dp by unfold sh_dp; omega) with ⟨z, mcf, mmf, z1, z2, z3, z4, z5⟩ | ⟨z, mc4, mmf, z1, z2, z3, ⟨c4, z4, z4b, z4c⟩, z5, z6, z7⟩ | ⟨mc4, mm4, p4, c4, g4, e, ht, z1, z2, z3, z4, z5, z6, z7, z8, z9, z10, z11, z12, z13, z14, z15, z16, z17⟩
    · exact Or.inl ⟨z, mcf, mmf, z1, z2, z3, (z4.of (f3 0 0)).of cF, (z5.of (i3 0)).of mF⟩
    · refine Or.inl ⟨z, _, mmf, z1, z2.trans ?_, z3, ((z4.bad.of z5).of (f3 0 0)).of cF, (z6.of (i3 0)).of mF⟩
      show sh_bt (sf_48 59 mc4) _ _ = _
      rw [sh_48f z4 z7]
      rfl
    · obtain ⟨m5, j1, j2, j3⟩ := sh_48t z5 z3 z4
      obtain ⟨m6, k1, k2, k3, k4, k5, k6⟩ := sh_56 (a := x3) (x := Int32.ofNat p) (y := m3.I 39 4) j2 (by omega)
      refine Or.inr ⟨m6, mm4, p4, c4, g4, e, ht, z1.trans ?_, z2, k2, z6, ?_, (i3 g).trans z8 (Nat.le_refl _), z9, by omega, z11, by omega, z4, ?_, z14, z15, ?_, ?_, k4, k5, k6.trans f2.at_⟩
      · show sh_bt (sf_48 59 mc4) _ _ = _
        rw [j1]
        show sh_bn (sf_56 x3 _ _ m5) _ = _
        rw [k1]
        rfl
      · exact (f3 c1 0).trans (z7.trans ((j3 c1 0).trans (k3 0) z11 (Nat.le_refl _)) (Nat.le_refl _) (Nat.le_refl _)) (Nat.le_refl _) (Nat.le_refl _)
      · refine sh_R_fr z13 (fun _ _ _ _ _ _ => rfl) (fun y y1 y2 => ?_)
        have q1 := (k3 0).cd y (by omega)
        have q2 := (j3 c4 0).cd y (by omega)
        exact ⟨q1.1.trans q2.1, q1.2.1.trans q2.2.1, q1.2.2.trans q2.2.2⟩
      · intro y y1 y2 y3
        rw [z16 y y1 y2 y3, (i3 g1).pt g hg y y1 y2]
      · intro z q1 q2 y y1 y2
        rw [z17 z q1 q2 y y1 y2, (i3 g1).pt z q2 y y1 y2]
  · refine Or.inl ⟨pc1, _, _, pN, ?_, ?_, hc.bad.of cF, hm.bad.of mF⟩
    · rw [sh_48f hc h61]
      rfl
    · rw [sh_262f hm (Or.inr (Or.inr (by decide))) h61, sh_bn_some, if_neg (by simp)]
/-- an assignment -/
theorem sh_sset {d p c g : Nat} {mc mm : sh_X} {Q : sh_Q48} {Q2 : sh_Q242} (hT : sh_Txt N K P V) (hd : d ≤ 40) (hb : sh_Qb N K P V p c g mc mm) (hK : K p = 1) : sh_Sp N K P V d p c g mc mm (sf_55_10 Q (Int32.ofNat d) mc) (sf_265 Q2 (Int32.ofNat d) mm) := by
  have n4 := hb.pc.N4
  have pN := hb.pc.pN
  have bc := hb.bc
  have bg := hb.bg
  have hp : p < N := hT.lt pN (by rw [hK]; decide)
  obtain ⟨m1, a1, a2, a3, a4, a5, a6⟩ := sh_56 (a := 0) (x := mc.I 39 4) (y := 0) hb.pc (by omega)
  obtain ⟨m2, b1, b2, b3⟩ := sh_48t a2 hK hp
  obtain ⟨m3, f1, f2, f3, f4, f5, f6⟩ := sh_56 (a := 3) (x := m1.I 39 4) (y := 0) b2 (by omega)
  obtain ⟨mA, mF⟩ := sh_madv hb.pm hp
  obtain ⟨n1, e1, e2, e3, e4, e5, e6, e7, e8, e9, e10⟩ := sh_266 (k := 21) (t := mm.I 66 21) (a := -1) (b := -1) mA (by omega)
  have cF3 : sh_Cf c 0 mc m3 := (a3 0).trans ((b3 c 0).trans (f3 0) (by omega) (Nat.le_refl _)) (Nat.le_refl _) (Nat.le_refl _)
  have mF3 : sh_Mf g mm n1 := (mF g).trans e3 (Nat.le_refl _)
  have c00 : m3.I 36 c = 0 ∧ m3.I 37 c = Int32.ofNat p := by
    have q1 := (f3 0).cd c (by omega)
    have q2 := (b3 (c + 1) 0).cd c (by omega)
    exact ⟨q1.1.trans (q2.1.trans a4), (q1.2.1.trans (q2.2.1.trans a5)).trans hb.pc.at_⟩
  have c11 : m3.I 36 (c + 1) = 3 ∧ m3.I 37 (c + 1) = Int32.ofNat p := ⟨f4, f5.trans a2.at_⟩
  have hok : sh_okb (Int32.ofNat g) 9000 = true := (sh_okn (by omega)).mpr (by omega)
  obtain ⟨o1, o2, o3⟩ := sh_mok e2
  have ec : sf_55_10 Q (Int32.ofNat d) mc = if K (p + 1) = 91 then sh_bn (sf_56 4 (Int32.ofNat (p + 1)) (Int32.ofNat p) m3) fun r4 m14 => sh_bt ((sq_44 sh_dp).f68 (Int32.ofNat d) m14) (fun m => (none, m)) fun _ m15 => sf_75_54 (Int32.ofNat d) (Int32.ofNat p) 6 m15 else sf_75_54 (Int32.ofNat d) (Int32.ofNat p) 5 m3 := by
    unfold sf_55_10
    rw [a1, sh_bn_some, sh_45 a2, sh_bc_some, if_neg (by rw [hK]; decide), if_neg (by rw [hK]; decide), if_neg (by rw [hK]; decide), if_neg (by rw [hK]; decide), sh_idt]
    unfold sf_75
    rw [b1]
    show sh_bn (sf_56 3 (m1.I 39 4) 0 m2) _ = _
    rw [f1, sh_bn_some, sh_45 f2, sh_bc_some, f2.at_, a2.at_]
  have em : sf_265 Q2 (Int32.ofNat d) mm = if K (p + 1) = 91 then
      sh_bn ((sq_240 sh_dp).f267 (Int32.ofNat (d + 1)) (n1.T, sh_u2 (sh_u2 n1.I 76 g (n1.I 66 21)) 66 21 (n1.I 66 21 + 1), n1.J, n1.s)) fun r m => if sh_u2 m.I 75 g r 75 g < 0 then some (-1, ((m.T, sh_u2 m.I 75 g r, m.J, m.s) : sh_X)) else sh_bn (sf_262 93 (m.T, sh_u2 m.I 75 g r, m.J, m.s)) fun r2 m2 => if r2 = true then sf_265_261 Q2 (Int32.ofNat d) (Int32.ofNat g) m2 else some (-1, m2)
      else sf_265_261 Q2 (Int32.ofNat d) (Int32.ofNat g) n1 := by
    unfold sf_265
    have t16 := mA.wq.wd (i := p) pN (show 8 < 12 by omega)
    have t17 := mA.wq.wd (i := p) pN (show 9 < 12 by omega)
    have t14 := mA.wq.wd (i := p) pN (show 6 < 12 by omega)
    have t13 := mA.wq.wd (i := p) pN (show 5 < 12 by omega)
    rw [show sf_256 (mm.I 66 21) 16 (mm.T, sh_u2 mm.I 66 21 (mm.I 66 21 + 1), mm.J, mm.s) = some (decide (K p = Int32.ofNat (4 + 8))) by rw [hb.pm.at_] at t16 ⊢; exact t16, sh_bc_some, decide_eq_false (show ¬ K p = Int32.ofNat (4 + 8) by rw [hK]; decide), if_neg (by simp), show sf_256 (mm.I 66 21) 17 (mm.T, sh_u2 mm.I 66 21 (mm.I 66 21 + 1), mm.J, mm.s) = some (decide (K p = Int32.ofNat (4 + 9))) by rw [hb.pm.at_] at t17 ⊢; exact t17, sh_bc_some, decide_eq_false (show ¬ K p = Int32.ofNat (4 + 9) by rw [hK]; decide), if_neg (by simp), show sf_256 (mm.I 66 21) 14 (mm.T, sh_u2 mm.I 66 21 (mm.I 66 21 + 1), mm.J, mm.s) = some (decide (K p = Int32.ofNat (4 + 6))) by rw [hb.pm.at_] at t14 ⊢; exact t14, sh_bc_some, decide_eq_false (show ¬ K p = Int32.ofNat (4 + 6) by rw [hK]; decide), if_neg (by simp), show sf_256 (mm.I 66 21) 13 (mm.T, sh_u2 mm.I 66 21 (mm.I 66 21 + 1), mm.J, mm.s) = some (decide (K p = Int32.ofNat (4 + 5))) by rw [hb.pm.at_] at t13 ⊢; exact t13, sh_bc_some, decide_eq_false (show ¬ K p = Int32.ofNat (4 + 5) by rw [hK]; decide), if_neg (by simp), e1, sh_bn_some, if_pos o1, o2]
    by_cases h91 : K (p + 1) = 91
    · rw [if_pos h91, if_pos ((e2.wq.tk (by omega) (Or.inr (Or.inr (by decide)))).mpr h91)]
      simp only [if_pos hok, sh_nIc (show g < 2147483648 by omega)]
      rw [sh_nI1]
    · rw [if_neg h91, if_neg (fun q => h91 ((e2.wq.tk (by omega) (Or.inr (Or.inr (by decide)))).mp q))]
  rw [ec, em]
  by_cases h91 : K (p + 1) = 91
  · -- with an index
    have hp1 : p + 1 < N := hT.lt (by omega) (by rw [h91]; decide)
    rw [if_pos h91, if_pos h91]
    obtain ⟨m4, g1, g2, g3, g4, g5, g6⟩ := sh_56 (a := 4) (x := Int32.ofNat (p + 1)) (y := Int32.ofNat p) f2 (by omega)
    obtain ⟨m5, i1, i2, i3⟩ := sh_48t g2 h91 hp1
    -- the model's three[s], and one word on
    have hn2 : ∃ n2 : sh_X, n2 = (n1.T, sh_u2 (sh_u2 n1.I 76 g (n1.I 66 21)) 66 21 (n1.I 66 21 + 1), n1.J, n1.s) ∧ sh_Pm N K P V (p + 1 + 1) (g + 1) n2 ∧ sh_Mf g n1 n2 ∧ n2.I 76 g = Int32.ofNat (p + 1) ∧ (∀ y, 72 ≤ y → y ≤ 78 → y ≠ 76 → n2.I y g = n1.I y g) := by
      refine ⟨_, rfl, sh_Pm.mk (e2.wq.same ?_ ?_ ?_ ?_) ?_ (by omega) ?_, sh_Mf.mk rfl rfl rfl (by simp [sh_X.I, sh_u2]) ?_ ?_ ?_, ?_, ?_⟩
      · simp only [sh_X.I, sh_u2_cell (show (67 : Nat) ≠ 66 by omega), sh_u2_cell (show (67 : Nat) ≠ 76 by omega)]
      · simp only [sh_X.I, sh_u2_cell (show (68 : Nat) ≠ 66 by omega), sh_u2_cell (show (68 : Nat) ≠ 76 by omega)]
      · simp only [sh_X.I, sh_u2_cell (show (69 : Nat) ≠ 66 by omega), sh_u2_cell (show (69 : Nat) ≠ 76 by omega)]
      · simp only [sh_X.I, sh_u2_cell (show (70 : Nat) ≠ 66 by omega), sh_u2_cell (show (70 : Nat) ≠ 76 by omega)]
      · simp only [sh_X.I, sh_u2_same]
        rw [show n1.2.1 66 21 = _ from e2.at_, sh_nI1]
      · simp only [sh_X.I, sh_u2_idx (show (20 : Nat) ≠ 21 by omega), sh_u2_cell (show (66 : Nat) ≠ 76 by omega)]
        exact e2.am
      · intro z h1 h2
        simp only [sh_X.I, sh_u2_cell h1, sh_u2_cell (show z ≠ 76 by omega)]
      · intro j _ _ _ h21 _ _
        simp only [sh_X.I, sh_u2_idx h21, sh_u2_cell (show (66 : Nat) ≠ 76 by omega)]
      · intro y hy z h1 h2
        simp only [sh_X.I, sh_u2_cell (show z ≠ 66 by omega)]
        by_cases hz : z = 76
        · subst hz; rw [sh_u2_idx (by omega)]
        · rw [sh_u2_cell hz]
      · simp only [sh_X.I, sh_u2_cell (show (76 : Nat) ≠ 66 by omega), sh_u2_same]
        exact e2.at_
      · intro y h1 h2 h3
        simp only [sh_X.I, sh_u2_cell (show y ≠ 66 by omega), sh_u2_cell h3]
    obtain ⟨n2, hn2e, hn2p, hn2f, hn2t, hn2o⟩ := hn2
    rw [← hn2e, g1, sh_bn_some]
    have hbx : sh_Pb N K P V (p + 1 + 1) (c + 1 + 1 + 1) 0 (g + 1) m5 n2 := sh_Pb.mk i2 hn2p (by omega) (by omega)
    have cF5 : sh_Cf c 0 mc m5 := cF3.trans ((g3 0).trans (i3 (c + 1 + 1) 0) (Nat.le_refl _) (Nat.le_refl _)) (by omega) (Nat.le_refl _)
    have mF5 : sh_Mf g mm n2 := mF3.trans hn2f (Nat.le_refl _)
    have e68 : (sq_44 sh_dp).f68 (Int32.ofNat d) m4 = sh_bt ((sq_44 999).f58 (Int32.ofNat (d + 1)) m5) (fun m => (none, m)) fun _ m12 => sh_bn (sf_56 29 (m5.I 39 4) 0 m12) fun r3 m13 => sh_bt (sf_48 93 m13) (fun m => (none, m)) fun _ m14 => some ((some (), m14)) := by
      show sf_68 (sq_44 999) (Int32.ofNat d) m4 = _
      unfold sf_68
      rw [i1, sh_nI1]
      rfl
    have ebt : ∀ (x : Option (Option Unit × sh_X)), (sh_bt (sh_bt x (fun m => (none, m)) fun _ m12 => sh_bn (sf_56 29 (m5.I 39 4) 0 m12) fun r3 m13 => sh_bt (sf_48 93 m13) (fun m => (none, m)) fun _ m14 => some ((some (), m14))) (fun m => (none, m)) fun _ m15 => sf_75_54 (Int32.ofNat d) (Int32.ofNat p) 6 m15) = sh_bt x (fun m => (none, m)) fun _ m12 => sh_bn (sf_56 29 (m5.I 39 4) 0 m12) fun r3 m13 => sh_bt (sf_48 93 m13) (fun m => (none, m)) fun _ m14 => sf_75_54 (Int32.ofNat d) (Int32.ofNat p) 6 m14 := by
      intro x
      rcases x with _ | ⟨_ | _, m⟩
      · rfl
      · rfl
      · show sh_bt (sh_bn (sf_56 29 (m5.I 39 4) 0 m) _) _ _ = sh_bn (sf_56 29 (m5.I 39 4) 0 m) _
        rcases sf_56 29 (m5.I 39 4) 0 m with _ | ⟨_, m'⟩
        · rfl
        · show sh_bt (sh_bt (sf_48 93 m') _ _) _ _ = sh_bt (sf_48 93 m') _ _
          rcases sf_48 93 m' with _ | ⟨_ | _, m''⟩ <;> rfl
    rw [e68, ebt]
    rcases sh_pthen (d := d + 1) (x := 75) (k := 93) (g0 := g) (kc := fun m12 => sh_bn (sf_56 29 (m5.I 39 4) 0 m12) fun r3 m13 => sh_bt (sf_48 93 m13) (fun m => (none, m)) fun _ m14 => sf_75_54 (Int32.ofNat d) (Int32.ofNat p) 6 m14) (km := fun m => sf_265_261 Q2 (Int32.ofNat d) (Int32.ofNat g) m) hT (by omega) hbx (by omega) (Or.inr rfl) (by decide) (show 300 ≤ 999 by omega) with ⟨z, mcf, mmf, z1, z2, z3, z4, z5⟩ | ⟨z, mc4, mmf, z1, z2, z3, ⟨c4, z4, z4b, z4c⟩, z5, z6, z7⟩ | ⟨mc4, mm4, p4, c4, g4', e, ht, z1, z2, z3, z4, z5, z6, z7, z8, z9, z10, z11, z12, z13, z14, z15, z16, z17⟩
    · exact Or.inl ⟨z, mcf, mmf, z1, z2, z3, z4.of cF5, z5.of mF5⟩
    · obtain ⟨m6, k1, k2, k3, k4, k5, k6⟩ := sh_56 (a := 29) (x := m5.I 39 4) (y := 0) z4 (by omega)
      refine Or.inl ⟨z, _, mmf, z1, z2.trans ?_, z3, ((k2.bad.of (k3 0)).of z5).of cF5, z6.of mF5⟩
      show sh_bn (sf_56 29 (m5.I 39 4) 0 mc4) _ = _
      rw [k1, sh_bn_some, sh_48f k2 z7]
      rfl
    · obtain ⟨m6, k1, k2, k3, k4, k5, k6⟩ := sh_56 (a := 29) (x := m5.I 39 4) (y := 0) z5 (by omega)
      obtain ⟨m7, l1, l2, l3⟩ := sh_48t k2 z3 z4
      have hc1 : (sh_bt ((sq_44 999).f58 (Int32.ofNat (d + 1)) m5) (fun m => (none, m)) fun _ m12 => sh_bn (sf_56 29 (m5.I 39 4) 0 m12) fun r3 m13 => sh_bt (sf_48 93 m13) (fun m => (none, m)) fun _ m14 => sf_75_54 (Int32.ofNat d) (Int32.ofNat p) 6 m14) = sf_75_54 (Int32.ofNat d) (Int32.ofNat p) 6 m7 := by
        refine z1.trans ?_
        show sh_bn (sf_56 29 (m5.I 39 4) 0 mc4) _ = _
        rw [k1, sh_bn_some, l1]
        rfl
      rw [hc1, z2]
      have cF7 : sh_Cf c 0 mc m7 := cF5.trans (z7.trans ((k3 0).trans (l3 c4 0) (Nat.le_refl _) (Nat.le_refl _)) (by omega) (Nat.le_refl _)) (by omega) (Nat.le_refl _)
      have mF7 : sh_Mf g mm mm4 := mF5.trans z8 (Nat.le_refl _)
      rcases sh_sset2 (p := p) (x3 := 6) (Q2 := Q2) hT hd l2 z6 (show g < g4' by have := sh_R_e z13; omega) (by omega) (by omega) cF7 mF7 (by omega) with ⟨z, mcf, mmf, w1, w2, w3, w4, w5⟩ | ⟨mc8, mm8, p8, c8, g8, e8', ht8, w1, w2, w3, w4, w5, w6, w7, w8, w9, w10, w11, w12, w13, w14, w15, w16, w17, w18, w19⟩
      · exact Or.inl ⟨z, mcf, mmf, w1, w2, w3, w4, w5⟩
      · have re := sh_R_e z13
        have re8 := sh_R_e w12
        refine Or.inr ⟨mc8, mm8, p8 + 1, c8 + 1, g8, ht + ht8 + 1, w1, w2, sh_So.mk w3 w4 (cF7.trans w5 (by omega) (Nat.le_refl _)) (mF7.trans w6 (Nat.le_refl _)) (by omega) (by omega) (by omega) (by omega) ?_ ?_⟩
        · have ng : ∀ y, 72 ≤ y → y ≤ 78 → y ≠ 74 → y ≠ 75 → mm8.I y g = n2.I y g := by
            intro y y1 y2 y3 y4
            rw [w15 y y1 y2 y3, z16 y y1 y2 y4]
          have cdx : ∀ y, y < c + 1 + 1 + 1 → mc8.I 36 y = m4.I 36 y ∧ mc8.I 37 y = m4.I 37 y ∧ mc8.I 38 y = m4.I 38 y := by
            intro y hy
            have q1 := w5.cd y (by omega)
            have q2 := (l3 (c + 1 + 1 + 1) 0).cd y (by omega)
            have q3 := (k3 0).cd y (by omega)
            have q4 := z7.cd y (by omega)
            have q5 := (i3 (c + 1 + 1 + 1) 0).cd y (by omega)
            exact ⟨q1.1.trans (q2.1.trans (q3.1.trans (q4.1.trans q5.1))), q1.2.1.trans (q2.2.1.trans (q3.2.1.trans (q4.2.1.trans q5.2.1))), q1.2.2.trans (q2.2.2.trans (q3.2.2.trans (q4.2.2.trans q5.2.2)))⟩
          have c0 := cdx c (by omega)
          have c1 := cdx (c + 1) (by omega)
          have c2 := cdx (c + 1 + 1) (by omega)
          have c0' := (g3 0).cd c (by omega)
          have c1' := (g3 0).cd (c + 1) (by omega)
          have ck1 := w5.cd c4 (by omega)
          have ck2 := (l3 (c4 + 1) 0).cd c4 (by omega)
          have me : mm8.I 78 e = Int32.ofNat (p + 2) := by
            rw [w16 e (by omega) re.2.1 78 (by omega) (by omega)]
            exact z14
          unfold sp_S
          refine ⟨⟨Nat.le_refl _, by omega, hd, by omega, by omega, by omega⟩, ?_, by rw [c0.1, c0'.1]; exact c00.1, by rw [c0.2.1, c0'.2.1]; exact c00.2, Or.inr (Or.inr (Or.inr (Or.inl ⟨?_, ?_, hK, ?_, ?_, ?_, ?_, ?_, ?_, ?_, e8', e, ht8, ht, c4, g4', p4, w14, ?_, by omega, by omega, by omega, by omega, by omega, by omega, ?_, ?_, me, ?_, w13, ?_, ?_⟩)))⟩
          · rw [ng 73 (by omega) (by omega) (by omega) (by omega), hn2o 73 (by omega) (by omega) (by omega), e5]; exact hb.pm.at_
          · rw [ng 72 (by omega) (by omega) (by omega) (by omega), hn2o 72 (by omega) (by omega) (by omega), e4]
          · rw [ng 76 (by omega) (by omega) (by omega) (by omega)]; exact hn2t
          · rw [c1.1, c1'.1]; exact c11.1
          · rw [c1.2.1, c1'.2.1]; exact c11.2
          · exact c2.1.trans g4
          · exact c2.2.1.trans g5
          · exact c2.2.2.trans g6
          · rw [show c8 + 1 - 1 = c8 by omega]; exact w17
          · rw [show c8 + 1 - 1 = c8 by omega]; exact w18
          · rw [w15 75 (by omega) (by omega) (by omega)]; exact z15
          · exact (ck1.1.trans ck2.1).trans k4
          · exact ((ck1.2.1.trans ck2.2.1).trans k5).trans i2.at_
          · rw [show c8 + 1 - 1 = c8 by omega]; exact w19
          · refine sh_R_fr z13 (fun x x1 x2 y y1 y2 => w16 x (by omega) x2 y y1 y2) (fun y y1 y2 => ?_)
            have q1 := w5.cd y (by omega)
            have q2 := (l3 c4 0).cd y (by omega)
            have q3 := (k3 0).cd y (by omega)
            exact ⟨q1.1.trans (q2.1.trans q3.1), q1.2.1.trans (q2.2.1.trans q3.2.1), q1.2.2.trans (q2.2.2.trans q3.2.2)⟩
          · rw [show c8 + 1 - 1 = c8 by omega, show p8 + 1 - 1 = p8 by omega]
            exact w12
        · rw [w15 77 (by omega) (by omega) (by omega), z16 77 (by omega) (by omega) (by omega), hn2o 77 (by omega) (by omega) (by omega)]
          exact e9
  · rw [if_neg h91, if_neg h91]
    rcases sh_sset2 (p := p) (x3 := 5) (Q2 := Q2) hT hd f2 e2 (show g < g + 1 by omega) (by omega) (by omega) cF3 mF3 (by omega) with ⟨z, mcf, mmf, w1, w2, w3, w4, w5⟩ | ⟨mc8, mm8, p8, c8, g8, e8', ht8, w1, w2, w3, w4, w5, w6, w7, w8, w9, w10, w11, w12, w13, w14, w15, w16, w17, w18, w19⟩
    · exact Or.inl ⟨z, mcf, mmf, w1, w2, w3, w4, w5⟩
    · have re8 := sh_R_e w12
      refine Or.inr ⟨mc8, mm8, p8 + 1, c8 + 1, g8, ht8 + 1, w1, w2, sh_So.mk w3 w4 (cF3.trans w5 (by omega) (Nat.le_refl _)) (mF3.trans w6 (Nat.le_refl _)) (by omega) (by omega) (by omega) (by omega) ?_ ?_⟩
      · have c0 := w5.cd c (by omega)
        have c1 := w5.cd (c + 1) (by omega)
        unfold sp_S
        refine ⟨⟨Nat.le_refl _, by omega, hd, by omega, by omega, by omega⟩, ?_, by rw [c0.1]; exact c00.1, by rw [c0.2.1]; exact c00.2, Or.inr (Or.inr (Or.inl ⟨?_, ?_, hK, ?_, ?_, ?_, ?_, e8', ht8, w14, ?_, w13, ?_⟩))⟩
        · rw [w15 73 (by omega) (by omega) (by omega), e5]; exact hb.pm.at_
        · rw [w15 72 (by omega) (by omega) (by omega), e4]
        · rw [w15 75 (by omega) (by omega) (by omega), e7]
        · rw [c1.1]; exact c11.1
        · rw [c1.2.1]; exact c11.2
        · rw [show c8 + 1 - 1 = c8 by omega]; exact w17
        · rw [show c8 + 1 - 1 = c8 by omega]; exact w18
        · rw [show c8 + 1 - 1 = c8 by omega]; exact w19
        · rw [show c8 + 1 - 1 = c8 by omega, show p8 + 1 - 1 = p8 by omega]
          exact w12
      · rw [w15 77 (by omega) (by omega) (by omega)]
        exact e9
end
