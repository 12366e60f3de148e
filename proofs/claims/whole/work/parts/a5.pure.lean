/-! PARSERS: FNs, whole -/
section
variable {N : Nat} {K : Nat → Int32} {P V : Nat → Nat}
theorem sh_pfn {F p c g : Nat} {mc mm : sh_X} (hT : sh_Txt N K P V) (hI : sh_Fi N K P V F p c g mc mm) (k8 : K p = 8) :
    (∃ z mcf mmf, z ≤ N ∧ sf_47 mc = some (none, mcf) ∧ sf_257 mm = some (false, mmf) ∧ sh_bDc P z mc mcf ∧ sh_bDm P z mm mmf) ∨
    (∃ mc2 mm2 p2 c2 g2 ht, sf_47 mc = some (some (), mc2) ∧ sf_257 mm = some (true, mm2) ∧ sh_Fi N K P V (F + 1) p2 c2 g2 mc2 mm2 ∧ sh_Ff F c g mc mm mc2 mm2 ∧ sh_Fn N K V mm2.I mc2.I ht F g g2 c c2 p p2 ∧ p < p2 ∧ c ≤ c2 ∧ g ≤ g2) := by
  have n4 := hI.pc.N4
  have pN := hI.pc.pN
  have bc := hI.bc
  have bg := hI.bg
  have fp := hI.fp
  have hp : p < N := hT.lt pN (by rw [k8]; decide)
  have hF : F < 256 := by
    have := sh_Pup hT (show p ≤ N by omega) (Nat.le_refl _)
    have := hT.PN
    omega
  have clF : Int32.toNatClampNeg (Int32.ofNat F) = F := sh_nIc (by omega)
  have okF : ∀ n, 256 ≤ n → sh_okb (Int32.ofNat F) n = true := fun n hn => (sh_okn (by omega)).mpr (by omega)
  obtain ⟨ma, a1, a2, a3⟩ := sh_48t hI.pc k8 hp
  -- entries of the names
  obtain ⟨b1, b2⟩ := sh_cwr (x := 29) (i := F) (v := ma.I 39 4) a2 (Or.inl (by omega))
  obtain ⟨mb, hmb⟩ : ∃ mb : sh_X, mb = (ma.T, sh_u2 ma.I 29 F (ma.I 39 4), ma.J, ma.s) := ⟨_, rfl⟩
  have fmb : sh_Ff F c g ma mm mb mm := by rw [hmb]; exact sh_Ff.wc (by omega)
  rw [← hmb] at b1 b2
  have mb29 : mb.I 29 F = Int32.ofNat (p + 1) := by rw [hmb]; show sh_u2 ma.I 29 F (ma.I 39 4) 29 F = _; rw [sh_u2_same]; exact a2.at_
  have mbo : ∀ x y, x ≠ 29 → mb.I x y = ma.I x y := by intro x y hx; rw [hmb]; show sh_u2 ma.I 29 F (ma.I 39 4) x y = _; rw [sh_u2_cell hx]
  obtain ⟨c1, c2⟩ := sh_madv hI.pm hp
  obtain ⟨d1, d2⟩ := sh_mwr (x := 79) (i := F) (v := mm.I 66 21 + 1) c1 (Or.inl (by omega))
  obtain ⟨nb, hnb⟩ : ∃ nb : sh_X, nb = (mm.T, sh_u2 (sh_u2 mm.I 66 21 (mm.I 66 21 + 1)) 79 F (mm.I 66 21 + 1), mm.J, mm.s) := ⟨_, rfl⟩
  have d1' : sh_Pm N K P V (p + 1) g nb := by rw [hnb]; exact d1
  have nb79 : nb.I 79 F = Int32.ofNat (p + 1) := by rw [hnb]; show sh_u2 (sh_u2 mm.I 66 21 (mm.I 66 21 + 1)) 79 F (mm.I 66 21 + 1) 79 F = _; rw [sh_u2_same, hI.pm.at_, sh_nI1]
  have nb31 : nb.I 66 31 = Int32.ofNat F := by rw [hnb]; show sh_u2 (sh_u2 mm.I 66 21 (mm.I 66 21 + 1)) 79 F (mm.I 66 21 + 1) 66 31 = _; rw [sh_u2_cell (by omega), sh_u2_idx (by omega)]; exact hI.f31
  have fnb : sh_Ff F c g mc mm mc nb := by
    rw [hnb]
    exact (sh_Ff.of (sh_Cf.refl c 0 mc) (c2 g)).trans (sh_Ff.wm (mm := (mm.T, sh_u2 mm.I 66 21 (mm.I 66 21 + 1), mm.J, mm.s)) (x := 79) (v := mm.I 66 21 + 1) (by omega)) (Nat.le_refl _) (Nat.le_refl _) (Nat.le_refl _)
  have ffab : sh_Ff F c g mc mm mb nb := fnb.trans ((sh_Ff.of (a3 c 0) (sh_Mf.refl g nb)).trans (by rw [hmb]; exact sh_Ff.wc (by omega)) (Nat.le_refl _) (Nat.le_refl _) (Nat.le_refl _)) (Nat.le_refl _) (Nat.le_refl _) (Nat.le_refl _)
  have ec : sf_47 mc = sh_bt (sf_48 1 mb) (fun m => (none, m)) fun _ m11 =>
    sh_bt (sf_48 40 m11) (fun m => (none, m)) fun _ m12 =>
    sh_bt (sf_51 (Int32.ofNat F) m12) (fun m => (none, m)) fun _ m13 =>
    sh_bt (sf_48 41 m13) (fun m => (none, m)) fun _ m14 =>
      sh_bt (sf_52 ⟨m14.T, sh_u2 m14.I 31 F (m14.I 39 4), m14.J, m14.s⟩) (fun m => (none, m)) fun _ m15 =>
      sh_bt (sf_48 123 m15) (fun m => (none, m)) fun _ m16 =>
        sh_bt ((sq_48 sh_dp).f53 1 ⟨m16.T, sh_u2 (sh_u2 m16.I 30 F (m16.I 28 10)) 28 12 ((m16.I 28 12) + 1), m16.J, m16.s⟩) (fun m => (none, m)) fun _ m17 =>
        sh_bt (sf_48 14 m17) (fun m => (none, m)) fun _ m18 =>
        sh_bt ((sq_44 sh_dp).f58 1 m18) (fun m => (none, m)) fun _ m19 =>
        sh_bt (sf_48 59 m19) (fun m => (none, m)) fun _ m20 =>
        sh_bn (sf_56 18 (m18.I 39 4) 0 m20) fun r11 m21 =>
        sh_bt (sf_48 125 m21) (fun m => (none, m)) fun _ m22 =>
        some ((some (), m22)) := by
    unfold sf_47 sf_47_25
    rw [a1]
    show (if mc.I 28 12 < 256 then _ else _) = _
    rw [hI.f12, if_pos (show Int32.ofNat F < 256 from (sh_nIlt (b := 256) (by omega) (by omega)).mpr hF)]
    simp only [if_pos (okF 256 (by omega)), clF]
    rw [← hmb]
  have em : sf_257 mm = sh_bn (sf_258 nb) fun r1 m11 =>
    if r1 = true then
      sh_bn (sf_262 40 m11) fun r2 m12 =>
      if r2 = true then
        if sh_okb (m12.I 66 21) 4002 = true then
          if (m12.I 68 (Int32.toNatClampNeg (m12.I 66 21))) = 41 then
            sf_257_194 0 m12
          else
            sf_257_59 0 true m12
        else none
      else
        some ((false, m12))
    else
      some ((false, m11)) := by
    unfold sf_257
    rw [hI.f31, if_pos (okF 600 (by omega)), clF, ← hnb]
  rw [ec, em]
  rcases Classical.em (¬ K (p + 1) = 1) with k1 | k1
  · exact Or.inl ⟨p + 1, _, _, by omega, by rw [sh_48f b1 k1]; rfl, by rw [sh_258f d1' k1, sh_bn_some, if_neg (by simp)], b1.bad.cg ffab.cg, d1'.bad.mg ffab.mg⟩
  replace k1 := Decidable.of_not_not k1
  have hp1 : p + 1 < N := hT.lt (by omega) (by rw [k1]; decide)
  obtain ⟨m1, e1, e2, e3⟩ := sh_48t b1 k1 hp1
  obtain ⟨n1, f1, f2, f3⟩ := sh_258t d1' k1 hp1
  rw [e1, f1, sh_bn_some, if_pos rfl]
  have ff1 : sh_Ff F c g mc mm m1 n1 := ffab.trans (sh_Ff.of (e3 c 0) (f3 g)) (Nat.le_refl _) (Nat.le_refl _) (Nat.le_refl _)
  rcases Classical.em (¬ K (p + 1 + 1) = 40) with k2 | k2
  · refine Or.inl ⟨p + 1 + 1, _, _, by omega, ?_, by rw [sh_262f f2 (Or.inr (Or.inr (by decide))) k2, sh_bn_some, if_neg (by simp)], e2.bad.cg ff1.cg, f2.bad.mg ff1.mg⟩
    show sh_bt (sf_48 40 m1) _ _ = _
    rw [sh_48f e2 k2]
    rfl
  replace k2 := Decidable.of_not_not k2
  have hp2 : p + 1 + 1 < N := hT.lt (by omega) (by rw [k2]; decide)
  obtain ⟨m2, g1, g2, g3⟩ := sh_48t e2 k2 hp2
  obtain ⟨n2, i1, i2, i3⟩ := sh_262t f2 (Or.inr (Or.inr (by decide))) k2 hp2
  rw [i1, sh_bn_some, if_pos rfl]
  have ff2 : sh_Ff F c g mc mm m2 n2 := ff1.trans (sh_Ff.of (g3 c 0) (i3 g)) (Nat.le_refl _) (Nat.le_refl _) (Nat.le_refl _)
  obtain ⟨o1, o2, o3⟩ := sh_mok i2
  rw [if_pos o1, o2]
  have m2o : ∀ x y, x ≠ 39 → ¬ (x = 28 ∧ y = 10) → m2.I x y = mb.I x y := fun x y h1 h2 => (sh_Cf.ox g3 x y h1 h2).trans (sh_Cf.ox e3 x y h1 h2)
  have n2o : ∀ x y, x ≠ 66 → n2.I x y = nb.I x y := fun x y h1 => (sh_Mf.ox i3 x y h1).trans (sh_Mf.ox f3 x y h1)
  have n231 : n2.I 66 31 = Int32.ofNat F := by
    rw [(i3 0).I6 31 (by omega) (by omega) (by omega) (by omega) (by omega) (by omega), (f3 0).I6 31 (by omega) (by omega) (by omega) (by omega) (by omega) (by omega)]
    exact nb31
  have m212 : m2.I 28 12 = Int32.ofNat F := by
    rw [m2o 28 12 (by omega) (by omega), mbo 28 12 (by omega), (a3 0 0).I28 12 (by omega)]
    exact hI.f12
  -- behind the parameters
  have fin : ∀ (n : Nat) (t : Nat → Nat) (mx nx : sh_X) (px : Nat), sp_Pc N K P V px c 0 mx → sh_Pm N K P V px g nx → sh_Cg m2 mx → sh_Mg n2 nx → sh_Pr K nx.I mx.I F n t → t 0 = p + 3 → (0 < n → t n = px + 1) → p + 3 ≤ px → n ≤ 8 → nx.I 66 31 = Int32.ofNat F → (∀ x y, (x < 81 ∨ 83 < x) → x ≠ 66 → nx.I x y = n2.I x y) → (∀ x y, 81 ≤ x → x ≤ 83 → y < 8 * F → nx.I x y = n2.I x y) → (∀ x y, x ≠ 34 → x ≠ 39 → ¬ (x = 28 ∧ y = 10) → mx.I x y = m2.I x y) → (∀ y, y < 8 * F → mx.I 34 y = m2.I 34 y) → sf_51 (Int32.ofNat F) m2 = sf_51_110 (Int32.ofNat F) (Int32.ofNat n) mx → nx.I 66 36 = n2.I 66 36 →
      (∃ z mcf mmf, z ≤ N ∧ (sh_bt (some (some (), m1)) (fun m => (none, m)) fun _ m11 =>
    sh_bt (sf_48 40 m11) (fun m => (none, m)) fun _ m12 =>
    sh_bt (sf_51 (Int32.ofNat F) m12) (fun m => (none, m)) fun _ m13 =>
    sh_bt (sf_48 41 m13) (fun m => (none, m)) fun _ m14 =>
      sh_bt (sf_52 ⟨m14.T, sh_u2 m14.I 31 F (m14.I 39 4), m14.J, m14.s⟩) (fun m => (none, m)) fun _ m15 =>
      sh_bt (sf_48 123 m15) (fun m => (none, m)) fun _ m16 =>
        sh_bt ((sq_48 sh_dp).f53 1 ⟨m16.T, sh_u2 (sh_u2 m16.I 30 F (m16.I 28 10)) 28 12 ((m16.I 28 12) + 1), m16.J, m16.s⟩) (fun m => (none, m)) fun _ m17 =>
        sh_bt (sf_48 14 m17) (fun m => (none, m)) fun _ m18 =>
        sh_bt ((sq_44 sh_dp).f58 1 m18) (fun m => (none, m)) fun _ m19 =>
        sh_bt (sf_48 59 m19) (fun m => (none, m)) fun _ m20 =>
        sh_bn (sf_56 18 (m18.I 39 4) 0 m20) fun r11 m21 =>
        sh_bt (sf_48 125 m21) (fun m => (none, m)) fun _ m22 =>
        some ((some (), m22))) = some (none, mcf) ∧ sf_257_194 (Int32.ofNat n) nx = some (false, mmf) ∧ sh_bDc P z mc mcf ∧ sh_bDm P z mm mmf) ∨
    (∃ mc2 mm2 p2 c2 g2 ht, (sh_bt (some (some (), m1)) (fun m => (none, m)) fun _ m11 =>
    sh_bt (sf_48 40 m11) (fun m => (none, m)) fun _ m12 =>
    sh_bt (sf_51 (Int32.ofNat F) m12) (fun m => (none, m)) fun _ m13 =>
    sh_bt (sf_48 41 m13) (fun m => (none, m)) fun _ m14 =>
      sh_bt (sf_52 ⟨m14.T, sh_u2 m14.I 31 F (m14.I 39 4), m14.J, m14.s⟩) (fun m => (none, m)) fun _ m15 =>
      sh_bt (sf_48 123 m15) (fun m => (none, m)) fun _ m16 =>
        sh_bt ((sq_48 sh_dp).f53 1 ⟨m16.T, sh_u2 (sh_u2 m16.I 30 F (m16.I 28 10)) 28 12 ((m16.I 28 12) + 1), m16.J, m16.s⟩) (fun m => (none, m)) fun _ m17 =>
        sh_bt (sf_48 14 m17) (fun m => (none, m)) fun _ m18 =>
        sh_bt ((sq_44 sh_dp).f58 1 m18) (fun m => (none, m)) fun _ m19 =>
        sh_bt (sf_48 59 m19) (fun m => (none, m)) fun _ m20 =>
        sh_bn (sf_56 18 (m18.I 39 4) 0 m20) fun r11 m21 =>
        sh_bt (sf_48 125 m21) (fun m => (none, m)) fun _ m22 =>
        some ((some (), m22))) = some (some (), mc2) ∧ sf_257_194 (Int32.ofNat n) nx = some (true, mm2) ∧ sh_Fi N K P V (F + 1) p2 c2 g2 mc2 mm2 ∧ sh_Ff F c g mc mm mc2 mm2 ∧ sh_Fn N K V mm2.I mc2.I ht F g g2 c c2 p p2 ∧ p < p2 ∧ c ≤ c2 ∧ g ≤ g2) := by
    intro n t mx nx px h1 h2 h3 h4 h5 h6 h7 h8 h9 h10 h11 h12 h13 h14 h15 h16
    obtain ⟨w1, w2⟩ := sh_cwr (x := 33) (i := F) (v := Int32.ofNat n) h1 (Or.inl (by omega))
    obtain ⟨mw, hmw⟩ : ∃ mw : sh_X, mw = (mx.T, sh_u2 mx.I 33 F (Int32.ofNat n), mx.J, mx.s) := ⟨_, rfl⟩
    rw [← hmw] at w1 w2
    have mwo : ∀ x y, x ≠ 33 → mw.I x y = mx.I x y := by intro x y hx; rw [hmw]; show sh_u2 mx.I 33 F (Int32.ofNat n) x y = _; rw [sh_u2_cell hx]
    have e51 : sf_51 (Int32.ofNat F) m2 = some (some (), mw) := by
      rw [h15]
      unfold sf_51_110
      rw [if_pos (okF 256 (by omega)), clF, ← hmw]
    have ffx : sh_Ff F c g m2 n2 mw nx := by
      refine sh_Ff.mk (h3.trans w2) h4 ?_ ?_ ?_ h12 ?_ ?_ ?_ h16
      · intro y _
        rw [mwo 36 y (by omega), mwo 37 y (by omega), mwo 38 y (by omega)]
        exact ⟨h13 36 y (by omega) (by omega) (by omega), h13 37 y (by omega) (by omega) (by omega), h13 38 y (by omega) (by omega) (by omega)⟩
      · intro y _ x x1 x2; exact h11 x y (by omega) (by omega)
      · intro x y x1 x2 x3 _; exact h11 x y x3 (by omega)
      · intro x y x1 x2 hy
        by_cases hx : x = 33
        · subst hx
          rw [hmw]
          show sh_u2 mx.I 33 F (Int32.ofNat n) 33 y = _
          rw [sh_u2_idx (by omega)]
          exact h13 33 y (by omega) (by omega) (by omega)
        · rw [mwo x y hx]; exact h13 x y (by omega) (by omega) (by omega)
      · intro y hy; rw [mwo 34 y (by omega)]; exact h14 y hy
      · rw [mwo 28 11 (by omega)]; exact h13 28 11 (by omega) (by omega) (by omega)
    have hfin := sh_pfn2 (mc := mc) (mm := mm) (t := t) (n := n) hT hF w1 h2 (by rw [mwo 28 12 (by omega), h13 28 12 (by omega) (by omega) (by omega)]; exact m212) h10 bc bg fp (ff2.trans ffx (Nat.le_refl _) (Nat.le_refl _) (Nat.le_refl _)) (by rw [mwo 29 F (by omega), h13 29 F (by omega) (by omega) (by omega), m2o 29 F (by omega) (by omega)]; exact mb29) (by rw [hmw]; show sh_u2 mx.I 33 F (Int32.ofNat n) 33 F = _; exact sh_u2_same) (by rw [h11 79 F (by omega) (by omega), n2o 79 F (by omega)]; exact nb79) (h5.mono (fun _ _ => ⟨rfl, rfl, rfl⟩) (fun k _ => mwo 34 _ (by omega))) h6 h7 h8 h9 k8 k1
    show (∃ z mcf mmf, _ ∧ (sh_bt (sf_48 40 m1) _ _) = _ ∧ _) ∨ (∃ mc2 mm2 p2 c2 g2 ht, (sh_bt (sf_48 40 m1) _ _) = _ ∧ _)
    rw [g1]
    show (∃ z mcf mmf, _ ∧ (sh_bt (sf_51 (Int32.ofNat F) m2) _ _) = _ ∧ _) ∨ (∃ mc2 mm2 p2 c2 g2 ht, (sh_bt (sf_51 (Int32.ofNat F) m2) _ _) = _ ∧ _)
    rw [e51]
    exact hfin
  by_cases h41 : K (p + 1 + 1 + 1) = 41
  · rw [if_pos ((i2.wq.tk (by omega) (Or.inr (Or.inr (by decide)))).mpr h41)]
    refine fin 0 (fun _ => p + 3) m2 n2 (p + 1 + 1 + 1) g2 i2 (sh_Cg.refl _) (sh_Mg.refl _) (fun k hk => absurd hk (by omega)) rfl (fun q => absurd q (by omega)) (by omega) (by omega) n231 (fun _ _ _ _ => rfl) (fun _ _ _ _ _ => rfl) (fun _ _ _ _ _ => rfl) (fun _ _ => rfl) ?_ rfl
    unfold sf_51 sf_51_16
    rw [sh_45 g2, sh_bc_some, if_pos h41]
    exact sh_51E (n := 0) (k := 0)
  · rw [if_neg (fun q => h41 ((i2.wq.tk (by omega) (Or.inr (Or.inr (by decide)))).mp q))]
    have e51 : sf_51 (Int32.ofNat F) m2 = sf_51_20 (Int32.ofNat F) (Int32.ofNat 0) true (Int32.ofNat 0) m2 := by
      unfold sf_51 sf_51_16
      rw [sh_45 g2, sh_bc_some, if_neg h41]
      rfl
    have hPi : sh_Pi N K P V F 0 (fun _ => p + 1 + 1 + 1) m2 n2 m2 n2 (p + 1 + 1 + 1) c g := sh_Pi.mk g2 i2 (sh_Cg.refl _) (sh_Mg.refl _) (fun k hk => absurd hk (by omega)) rfl (by omega) n231 rfl (fun _ _ _ _ => rfl) (fun _ _ _ _ _ => rfl) (fun _ _ _ _ _ => rfl) (fun _ _ => rfl)
    rcases sh_pparl hT hF 8 (p + 1 + 1 + 1) c g 0 _ m2 n2 (by omega) hPi with ⟨z, mcf, mmf, z1, z2, z3, z4, z5⟩ | ⟨n, t, mx, nx, px, z1, z2, z3, z4, z5, z6, z7, z8, z9, z10, z11, z12, z12b, z13, z14, z15, z16⟩
    · refine Or.inl ⟨z, mcf, mmf, z1, ?_, z3, z4.of ff2.cg, z5.of ff2.mg⟩
      show sh_bt (sf_48 40 m1) _ _ = _
      rw [g1]
      show sh_bt (sf_51 (Int32.ofNat F) m2) _ _ = _
      rw [e51, z2]
      rfl
    · rw [show sf_257_59 0 true n2 = _ from z3]
      have hup := z8.up n (Nat.le_refl _)
      have z10' : t 0 = p + 3 := z10
      refine fin n t mx nx px z4 z5 z6 z7 z8 (by rw [z10]) (fun _ => z9) (by omega) z11 z12 z13 z14 z15 z16 (e51.trans z2) z12b
end
