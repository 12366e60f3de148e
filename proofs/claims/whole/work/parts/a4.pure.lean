/-! PARSERS: a FN, from ')' on -/
def sh_Fi (N : Nat) (K : Nat → Int32) (P V : Nat → Nat) (F p c g : Nat) (mc mm : sh_X) : Prop := (sp_Pc N K P V p c 0 mc) ∧ (sh_Pm N K P V p g mm) ∧ (mc.I 28 12 = Int32.ofNat F) ∧ (mm.I 66 31 = Int32.ofNat F) ∧ (3 * c ≤ 4 * p) ∧ (g ≤ p) ∧ (17 * F ≤ P p)
theorem sh_Fi.pc {N : Nat} {K : Nat → Int32} {P V : Nat → Nat} {F p c g : Nat} {mc mm : sh_X} (h : sh_Fi N K P V F p c g mc mm) : sp_Pc N K P V p c 0 mc := h.1
theorem sh_Fi.pm {N : Nat} {K : Nat → Int32} {P V : Nat → Nat} {F p c g : Nat} {mc mm : sh_X} (h : sh_Fi N K P V F p c g mc mm) : sh_Pm N K P V p g mm := h.2.1
theorem sh_Fi.f12 {N : Nat} {K : Nat → Int32} {P V : Nat → Nat} {F p c g : Nat} {mc mm : sh_X} (h : sh_Fi N K P V F p c g mc mm) : mc.I 28 12 = Int32.ofNat F := h.2.2.1
theorem sh_Fi.f31 {N : Nat} {K : Nat → Int32} {P V : Nat → Nat} {F p c g : Nat} {mc mm : sh_X} (h : sh_Fi N K P V F p c g mc mm) : mm.I 66 31 = Int32.ofNat F := h.2.2.2.1
theorem sh_Fi.bc {N : Nat} {K : Nat → Int32} {P V : Nat → Nat} {F p c g : Nat} {mc mm : sh_X} (h : sh_Fi N K P V F p c g mc mm) : 3 * c ≤ 4 * p := h.2.2.2.2.1
theorem sh_Fi.bg {N : Nat} {K : Nat → Int32} {P V : Nat → Nat} {F p c g : Nat} {mc mm : sh_X} (h : sh_Fi N K P V F p c g mc mm) : g ≤ p := h.2.2.2.2.2.1
theorem sh_Fi.fp {N : Nat} {K : Nat → Int32} {P V : Nat → Nat} {F p c g : Nat} {mc mm : sh_X} (h : sh_Fi N K P V F p c g mc mm) : 17 * F ≤ P p := h.2.2.2.2.2.2
theorem sh_Fi.mk {N : Nat} {K : Nat → Int32} {P V : Nat → Nat} {F p c g : Nat} {mc mm : sh_X} (pc : sp_Pc N K P V p c 0 mc) (pm : sh_Pm N K P V p g mm) (f12 : mc.I 28 12 = Int32.ofNat F) (f31 : mm.I 66 31 = Int32.ofNat F) (bc : 3 * c ≤ 4 * p) (bg : g ≤ p) (fp : 17 * F ≤ P p) : sh_Fi N K P V F p c g mc mm := ⟨pc, pm, f12, f31, bc, bg, fp⟩
section
variable {N : Nat} {K : Nat → Int32} {P V : Nat → Nat}
theorem sp_L1 (k : Int32) : 1 ≤ sp_L k := by
  unfold sp_L
  repeat' split
  all_goals omega
theorem sh_Pup (hT : sh_Txt N K P V) {i j : Nat} (hij : i ≤ j) (hj : j ≤ N) : P i + (j - i) ≤ P j := by
  obtain ⟨n, rfl⟩ : ∃ n, j = i + n := ⟨j - i, by omega⟩
  clear hij
  induction n with
  | zero => simp
  | succ n ih =>
    have h1 := ih (by omega)
    have h2 := hT.PL (i + n) (by omega)
    have h3 := sp_L1 (K (i + n))
    rw [show i + n + 1 = i + (n + 1) by omega] at h2
    omega
theorem sh_bDm.w {w x i : Nat} {v : Int32} {m mf : sh_X} (h : sh_bDm P w m mf) (hx : 79 ≤ x ∧ x ≤ 91) : sh_bDm P w m (mf.T, sh_u2 mf.I x i v, mf.J, mf.s) := by
  refine ⟨h.1.trans (sh_Mh.mk rfl rfl rfl ?_ ?_), ?_, ?_⟩
  · intro z h1 h2; simp only [sh_X.I, sh_u2_cell (show z ≠ x by omega)]
  · intro j _ _ _ _ _ _ _ _ _; simp only [sh_X.I, sh_u2_cell (show (66 : Nat) ≠ x by omega)]
  · simp only [sh_X.I, sh_u2_cell (show (66 : Nat) ≠ x by omega)]; exact h.2.1
  · simp only [sh_X.I, sh_u2_cell (show (66 : Nat) ≠ x by omega)]; exact h.2.2
theorem sh_pfn2 {F p c g n p4 : Nat} {t : Nat → Nat} {mc mm mca mma : sh_X} (hT : sh_Txt N K P V) (hF : F < 256) (hc : sp_Pc N K P V p4 c 0 mca) (hm : sh_Pm N K P V p4 g mma) (f12 : mca.I 28 12 = Int32.ofNat F) (f31 : mma.I 66 31 = Int32.ofNat F) (bc : 3 * c ≤ 4 * p) (bg : g ≤ p) (fp : 17 * F ≤ P p) (hf : sh_Ff F c g mc mm mca mma) (c29 : mca.I 29 F = Int32.ofNat (p + 1)) (c33 : mca.I 33 F = Int32.ofNat n) (a79 : mma.I 79 F = Int32.ofNat (p + 1)) (hpr : sh_Pr K mma.I mca.I F n t) (t0 : t 0 = p + 3) (tn : 0 < n → t n = p4 + 1) (hp4 : p + 3 ≤ p4) (n8 : n ≤ 8) (k8 : K p = 8) (k1 : K (p + 1) = 1) :
    (∃ z mcf mmf, z ≤ N ∧ (sh_bt (sf_48 41 mca) (fun m => (none, m)) fun _ m14 =>
      sh_bt (sf_52 ⟨m14.T, sh_u2 m14.I 31 F (m14.I 39 4), m14.J, m14.s⟩) (fun m => (none, m)) fun _ m15 =>
      sh_bt (sf_48 123 m15) (fun m => (none, m)) fun _ m16 =>
        sh_bt ((sq_48 sh_dp).f53 1 ⟨m16.T, sh_u2 (sh_u2 m16.I 30 F (m16.I 28 10)) 28 12 ((m16.I 28 12) + 1), m16.J, m16.s⟩) (fun m => (none, m)) fun _ m17 =>
        sh_bt (sf_48 14 m17) (fun m => (none, m)) fun _ m18 =>
        sh_bt ((sq_44 sh_dp).f58 1 m18) (fun m => (none, m)) fun _ m19 =>
        sh_bt (sf_48 59 m19) (fun m => (none, m)) fun _ m20 =>
        sh_bn (sf_56 18 (m18.I 39 4) 0 m20) fun r11 m21 =>
        sh_bt (sf_48 125 m21) (fun m => (none, m)) fun _ m22 =>
        some ((some (), m22))) = some (none, mcf) ∧ sf_257_194 (Int32.ofNat n) mma = some (false, mmf) ∧ sh_bDc P z mc mcf ∧ sh_bDm P z mm mmf) ∨
    (∃ mc2 mm2 p2 c2 g2 ht, (sh_bt (sf_48 41 mca) (fun m => (none, m)) fun _ m14 =>
      sh_bt (sf_52 ⟨m14.T, sh_u2 m14.I 31 F (m14.I 39 4), m14.J, m14.s⟩) (fun m => (none, m)) fun _ m15 =>
      sh_bt (sf_48 123 m15) (fun m => (none, m)) fun _ m16 =>
        sh_bt ((sq_48 sh_dp).f53 1 ⟨m16.T, sh_u2 (sh_u2 m16.I 30 F (m16.I 28 10)) 28 12 ((m16.I 28 12) + 1), m16.J, m16.s⟩) (fun m => (none, m)) fun _ m17 =>
        sh_bt (sf_48 14 m17) (fun m => (none, m)) fun _ m18 =>
        sh_bt ((sq_44 sh_dp).f58 1 m18) (fun m => (none, m)) fun _ m19 =>
        sh_bt (sf_48 59 m19) (fun m => (none, m)) fun _ m20 =>
        sh_bn (sf_56 18 (m18.I 39 4) 0 m20) fun r11 m21 =>
        sh_bt (sf_48 125 m21) (fun m => (none, m)) fun _ m22 =>
        some ((some (), m22))) = some (some (), mc2) ∧ sf_257_194 (Int32.ofNat n) mma = some (true, mm2) ∧ sh_Fi N K P V (F + 1) p2 c2 g2 mc2 mm2 ∧ sh_Ff F c g mc mm mc2 mm2 ∧ sh_Fn N K V mm2.I mc2.I ht F g g2 c c2 p p2 ∧ p < p2 ∧ c ≤ c2 ∧ g ≤ g2) := by
  have n4 := hc.N4
  have pN := hc.pN
  have okF : ∀ x : Int32, x = Int32.ofNat F → sh_okb x 600 = true := fun x hx => by rw [hx]; exact (sh_okn (by omega)).mpr (by omega)
  have clF : Int32.toNatClampNeg (Int32.ofNat F) = F := sh_nIc (by omega)
  obtain ⟨w1, w2⟩ := sh_mwr (x := 80) (i := F) (v := Int32.ofNat n) hm (Or.inl (by omega))
  obtain ⟨ma, hma⟩ : ∃ ma : sh_X, ma = (mma.T, sh_u2 mma.I 80 F (Int32.ofNat n), mma.J, mma.s) := ⟨_, rfl⟩
  have fma : sh_Ff F c g mca mma mca ma := by rw [hma]; exact sh_Ff.wm (by omega)
  rw [← hma] at w1 w2
  have ma80 : ma.I 80 F = Int32.ofNat n := by rw [hma]; show sh_u2 mma.I 80 F (Int32.ofNat n) 80 F = _; exact sh_u2_same
  have mao : ∀ x y, x ≠ 80 → ma.I x y = mma.I x y := by intro x y hx; rw [hma]; show sh_u2 mma.I 80 F (Int32.ofNat n) x y = _; rw [sh_u2_cell hx]
  have ma31 : ma.I 66 31 = Int32.ofNat F := by rw [mao 66 31 (by omega)]; exact f31
  unfold sf_257_194
  rw [if_pos (okF _ f31), f31, clF, ← hma]
  -- ')'
  rcases Classical.em (¬ K p4 = 41) with h41 | h41
  · exact Or.inl ⟨p4, _, _, pN, by rw [sh_48f hc h41]; rfl, by rw [sh_262f w1 (Or.inr (Or.inr (by decide))) h41, sh_bn_some, if_neg (by simp)], hc.bad.cg hf.cg, w1.bad.mg (hf.mg.trans w2)⟩
  replace h41 := Decidable.of_not_not h41
  have hp4N : p4 < N := hT.lt pN (by rw [h41]; decide)
  obtain ⟨mb, b1, b2, b3⟩ := sh_48t hc h41 hp4N
  obtain ⟨nb, d1, d2, d3⟩ := sh_262t w1 (Or.inr (Or.inr (by decide))) h41 hp4N
  rw [b1, d1, sh_bn_some, if_pos rfl]
  show (∃ z mcf mmf, _ ∧ (sh_bt (sf_52 (mb.T, sh_u2 mb.I 31 F (mb.I 39 4), mb.J, mb.s)) _ _) = _ ∧ _) ∨ (∃ mc2 mm2 p2 c2 g2 ht, (sh_bt (sf_52 (mb.T, sh_u2 mb.I 31 F (mb.I 39 4), mb.J, mb.s)) _ _) = _ ∧ _)
  obtain ⟨e1, e2⟩ := sh_cwr (x := 31) (i := F) (v := mb.I 39 4) b2 (Or.inl (by omega))
  obtain ⟨md, hmd⟩ : ∃ md : sh_X, md = (mb.T, sh_u2 mb.I 31 F (mb.I 39 4), mb.J, mb.s) := ⟨_, rfl⟩
  have fmd : sh_Ff F c g mb nb md nb := by rw [hmd]; exact sh_Ff.wc (by omega)
  rw [← hmd] at e1 e2 ⊢
  have md31 : md.I 31 F = Int32.ofNat (p4 + 1) := by rw [hmd]; show sh_u2 mb.I 31 F (mb.I 39 4) 31 F = _; rw [sh_u2_same]; exact b2.at_
  have mdo : ∀ x y, x ≠ 31 → md.I x y = mb.I x y := by intro x y hx; rw [hmd]; show sh_u2 mb.I 31 F (mb.I 39 4) x y = _; rw [sh_u2_cell hx]
  have ff1 : sh_Ff F c g mc mm md nb := (hf.trans fma (Nat.le_refl _) (Nat.le_refl _) (Nat.le_refl _)).trans ((sh_Ff.of (b3 c 0) (d3 g)).trans fmd (Nat.le_refl _) (Nat.le_refl _) (Nat.le_refl _)) (Nat.le_refl _) (Nat.le_refl _) (Nat.le_refl _)
  -- the result's type
  rcases sh_type e1 d2 hT with ⟨z, mcf, mmf, z1, z2, z3, z4, z5⟩ | ⟨me, ne, p5, z1, z2, z3, z4, z5, z6, z7, z8, z9, z10⟩
  · exact Or.inl ⟨z, mcf, mmf, z1, by rw [z2]; rfl, by rw [z3, sh_bn_some, if_neg (by simp)], z4.cg ff1.cg, z5.mg ff1.mg⟩
  rw [z1, z2, sh_bn_some, if_pos rfl]
  show (∃ z mcf mmf, _ ∧ (sh_bt (sf_48 123 me) _ _) = _ ∧ _) ∨ (∃ mc2 mm2 p2 c2 g2 ht, (sh_bt (sf_48 123 me) _ _) = _ ∧ _)
  have ne31 : ne.I 66 31 = Int32.ofNat F := by
    rw [(z6 0).I6 31 (by omega) (by omega) (by omega) (by omega) (by omega) (by omega), (d3 0).I6 31 (by omega) (by omega) (by omega) (by omega) (by omega) (by omega)]
    exact ma31
  rw [if_pos (okF _ ne31), if_pos (okF _ ne31), ne31, clF]
  obtain ⟨g1, g2⟩ := sh_mwr (x := 84) (i := F) (v := ne.I 66 38) z4 (Or.inl (by omega))
  obtain ⟨g3, g4⟩ := sh_mwr (x := 85) (i := F) (v := ne.I 66 39) g1 (Or.inl (by omega))
  obtain ⟨ng, hng⟩ : ∃ ng : sh_X, ng = (ne.T, sh_u2 (sh_u2 ne.I 84 F (ne.I 66 38)) 85 F (ne.I 66 39), ne.J, ne.s) := ⟨_, rfl⟩
  have fng : sh_Ff F c g me ne me ng := by
    rw [hng]
    exact (sh_Ff.wm (x := 84) (v := ne.I 66 38) (by omega)).trans (sh_Ff.wm (mm := (ne.T, sh_u2 ne.I 84 F (ne.I 66 38), ne.J, ne.s)) (x := 85) (v := ne.I 66 39) (by omega)) (Nat.le_refl _) (Nat.le_refl _) (Nat.le_refl _)
  have g3' : sh_Pm N K P V p5 g ng := by rw [hng]; exact g3
  rw [← hng]
  have ngo : ∀ x y, x ≠ 84 → x ≠ 85 → ng.I x y = ne.I x y := by intro x y h1 h2; rw [hng]; show sh_u2 (sh_u2 ne.I 84 F (ne.I 66 38)) 85 F (ne.I 66 39) x y = _; rw [sh_u2_cell h2, sh_u2_cell h1]
  have ng84 : ng.I 84 F = Int32.ofNat (p4 + 1) := by rw [hng]; show sh_u2 (sh_u2 ne.I 84 F (ne.I 66 38)) 85 F (ne.I 66 39) 84 F = _; rw [sh_u2_cell (by omega), sh_u2_same]; exact z9
  have ng85 : ng.I 85 F = ne.I 66 39 := by rw [hng]; show sh_u2 (sh_u2 ne.I 84 F (ne.I 66 38)) 85 F (ne.I 66 39) 85 F = _; rw [sh_u2_same]
  have ff2 : sh_Ff F c g mc mm me ng := (ff1.trans (sh_Ff.of (z5 c 0) (z6 g)) (Nat.le_refl _) (Nat.le_refl _) (Nat.le_refl _)).trans fng (Nat.le_refl _) (Nat.le_refl _) (Nat.le_refl _)
  have p5N := z3.pN
  have p5l : p4 + 2 ≤ p5 := by omega
  -- '{'
  rcases Classical.em (¬ K p5 = 123) with h123 | h123
  · exact Or.inl ⟨p5, _, _, p5N, by rw [sh_48f z3 h123]; rfl, by rw [sh_262f g3' (Or.inr (Or.inr (by decide))) h123, sh_bn_some, if_neg (by simp)], z3.bad.cg ff2.cg, g3'.bad.mg ff2.mg⟩
  replace h123 := Decidable.of_not_not h123
  have hp5N : p5 < N := hT.lt p5N (by rw [h123]; decide)
  obtain ⟨mh, i1, i2, i3⟩ := sh_48t z3 h123 hp5N
  obtain ⟨nh, j1, j2, j3⟩ := sh_262t g3' (Or.inr (Or.inr (by decide))) h123 hp5N
  rw [i1, j1, sh_bn_some, if_pos rfl]
  -- the start of the code, and one FN more
  have mh12 : mh.I 28 12 = Int32.ofNat F := by
    rw [(i3 0 0).I28 12 (by omega), (z5 0 0).I28 12 (by omega), mdo 28 12 (by omega), (b3 0 0).I28 12 (by omega)]
    exact f12
  obtain ⟨k1', k2'⟩ := sh_cwr (x := 30) (i := F) (v := mh.I 28 10) i2 (Or.inl (by omega))
  obtain ⟨k3', k4'⟩ := sh_cwr (x := 28) (i := 12) (v := mh.I 28 12 + 1) k1' (Or.inr ⟨rfl, by omega⟩)
  obtain ⟨mk, hmk⟩ : ∃ mk : sh_X, mk = (mh.T, sh_u2 (sh_u2 mh.I 30 F (mh.I 28 10)) 28 12 (mh.I 28 12 + 1), mh.J, mh.s) := ⟨_, rfl⟩
  have mk12 : mk.I 28 12 = Int32.ofNat (F + 1) := by rw [hmk]; show sh_u2 (sh_u2 mh.I 30 F (mh.I 28 10)) 28 12 (mh.I 28 12 + 1) 28 12 = _; rw [sh_u2_same, mh12, sh_nI1]
  have mk30 : mk.I 30 F = Int32.ofNat c := by rw [hmk]; show sh_u2 (sh_u2 mh.I 30 F (mh.I 28 10)) 28 12 (mh.I 28 12 + 1) 30 F = _; rw [sh_u2_cell (by omega), sh_u2_same]; exact i2.am
  have mko : ∀ x y, x ≠ 30 → x ≠ 28 → mk.I x y = mh.I x y := by intro x y h1 h2; rw [hmk]; show sh_u2 (sh_u2 mh.I 30 F (mh.I 28 10)) 28 12 (mh.I 28 12 + 1) x y = _; rw [sh_u2_cell h2, sh_u2_cell h1]
  have kp : sp_Pc N K P V (p5 + 1) c 0 mk := by rw [hmk]; exact k3'
  have fmk : sh_Ff F c g mh nh mk nh := by
    refine sh_Ff.mk ?_ (sh_Mg.refl nh) ?_ (fun _ _ _ _ _ => rfl) (fun _ _ _ _ _ _ => rfl) (fun _ _ _ _ _ => rfl) ?_ ?_ ?_ rfl
    · rw [hmk]; exact k2'.trans k4'
    · intro y _; rw [mko 36 y (by omega) (by omega), mko 37 y (by omega) (by omega), mko 38 y (by omega) (by omega)]; exact ⟨rfl, rfl, rfl⟩
    · intro x y h1 h2 hy
      by_cases hx : x = 30
      · subst hx
        rw [hmk]
        show sh_u2 (sh_u2 mh.I 30 F (mh.I 28 10)) 28 12 (mh.I 28 12 + 1) 30 y = _
        rw [sh_u2_cell (by omega), sh_u2_idx (by omega)]
      · rw [mko x y hx (by omega)]
    · intro y _; rw [mko 34 y (by omega) (by omega)]
    · rw [hmk]; show sh_u2 (sh_u2 mh.I 30 F (mh.I 28 10)) 28 12 (mh.I 28 12 + 1) 28 11 = _; rw [sh_u2_idx (by omega), sh_u2_cell (by omega)]
  have ff3 : sh_Ff F c g mc mm mk nh := (ff2.trans (sh_Ff.of (i3 c 0) (j3 g)) (Nat.le_refl _) (Nat.le_refl _) (Nat.le_refl _)).trans fmk (Nat.le_refl _) (Nat.le_refl _) (Nat.le_refl _)
  show (∃ z mcf mmf, _ ∧ (sh_bt ((sq_48 sh_dp).f53 1 (mh.T, sh_u2 (sh_u2 mh.I 30 F (mh.I 28 10)) 28 12 (mh.I 28 12 + 1), mh.J, mh.s)) _ _) = _ ∧ _) ∨ (∃ mc2 mm2 p2 c2 g2 ht, (sh_bt ((sq_48 sh_dp).f53 1 (mh.T, sh_u2 (sh_u2 mh.I 30 F (mh.I 28 10)) 28 12 (mh.I 28 12 + 1), mh.J, mh.s)) _ _) = _ ∧ _)
  rw [← hmk]
  -- the body
  have hb : sh_Qb N K P V (p5 + 1) c g mk nh := sh_Qb.mk kp j2 (by omega) (by omega)
  have nh31 : nh.I 66 31 = Int32.ofNat F := by
    rw [(j3 0).I6 31 (by omega) (by omega) (by omega) (by omega) (by omega) (by omega), ngo 66 31 (by omega) (by omega)]
    exact ne31
  rcases sh_pstm (d := 1) hT (by omega) hb with ⟨z, mcf, mmf, y1, y2, y3, y4, y5⟩ | ⟨ml, nl, p6, c6, g6, ht, x, y1, y2, hS⟩
  · have q31 : mmf.I 66 31 = Int32.ofNat F := by
      rw [y5.1.I6 31 (by omega) (by omega) (by omega) (by omega) (by omega) (by omega)]
      exact nh31
    refine Or.inl ⟨z, mcf, (mmf.T, sh_u2 mmf.I 86 F (-2), mmf.J, mmf.s), y1, ?_, ?_, y4.cg ff3.cg, (y5.mg ff3.mg).w (by omega)⟩
    · rw [show (sq_48 sh_dp).f53 1 mk = _ from y2]
      rfl
    · rw [show (sq_242 sh_dp).f264 1 nh = _ from y3, sh_bn_some, if_pos (okF _ nh31), if_pos (okF _ q31), nh31, q31, clF, sh_u2_same, if_pos rfl]
  have nl31 : nl.I 66 31 = Int32.ofNat F := by
    rw [hS.mf.I6 31 (by omega) (by omega) (by omega) (by omega) (by omega) (by omega)]
    exact nh31
  rw [show (sq_48 sh_dp).f53 1 mk = _ from y1, show (sq_242 sh_dp).f264 1 nh = _ from y2, sh_bn_some, if_pos (okF _ nh31), if_pos (okF _ nl31), nh31, nl31, clF, sh_u2_same, if_neg hS.x2]
  show (∃ z mcf mmf, _ ∧ (sh_bt (sf_48 14 ml) _ _) = _ ∧ _) ∨ (∃ mc2 mm2 p2 c2 g2 ht, (sh_bt (sf_48 14 ml) _ _) = _ ∧ _)
  have ff4 : sh_Ff F c g mc mm ml nl := ff3.trans (sh_Ff.of hS.cf hS.mf) (Nat.le_refl _) (Nat.le_refl _) (Nat.le_refl _)
  obtain ⟨o1, o2⟩ := sh_mwr (x := 86) (i := F) (v := x) hS.pm (Or.inl (by omega))
  obtain ⟨no, hno⟩ : ∃ no : sh_X, no = (nl.T, sh_u2 nl.I 86 F x, nl.J, nl.s) := ⟨_, rfl⟩
  have fno : sh_Ff F c g ml nl ml no := by rw [hno]; exact sh_Ff.wm (by omega)
  rw [← hno] at o1 o2 ⊢
  have no86 : no.I 86 F = x := by rw [hno]; show sh_u2 nl.I 86 F x 86 F = _; exact sh_u2_same
  have noo : ∀ z y, z ≠ 86 → no.I z y = nl.I z y := by intro z y hz; rw [hno]; show sh_u2 nl.I 86 F x z y = _; rw [sh_u2_cell hz]
  have ff5 : sh_Ff F c g mc mm ml no := ff4.trans fno (Nat.le_refl _) (Nat.le_refl _) (Nat.le_refl _)
  have lp := hS.lp
  have lc := hS.lc
  have cc := hS.cc
  have lg := hS.lg
  have gg := hS.gg
  have p6N := hS.pc.pN
  -- return
  rcases Classical.em (¬ K p6 = 14) with h14 | h14
  · exact Or.inl ⟨p6, _, _, p6N, by rw [sh_48f hS.pc h14]; rfl, by rw [show sf_277 18 no = _ from sh_277f (j := 10) o1 (by omega) h14, sh_bn_some, if_neg (by simp)], hS.pc.bad.cg ff5.cg, o1.bad.mg ff5.mg⟩
  replace h14 := Decidable.of_not_not h14
  have hp6N : p6 < N := hT.lt p6N (by rw [h14]; decide)
  obtain ⟨mp, q1, q2, q3⟩ := sh_48t hS.pc h14 hp6N
  obtain ⟨np, r1, r2, r3⟩ := sh_277t (j := 10) o1 (by omega) h14 hp6N
  rw [q1, show sf_277 18 no = _ from r1, sh_bn_some, if_pos rfl]
  show (∃ z mcf mmf, _ ∧ (sh_bt ((sq_44 sh_dp).f58 1 mp) _ _) = _ ∧ _) ∨ (∃ mc2 mm2 p2 c2 g2 ht, (sh_bt ((sq_44 sh_dp).f58 1 mp) _ _) = _ ∧ _)
  have ff6 : sh_Ff F c g mc mm mp np := ff5.trans (sh_Ff.of (q3 c 0) (r3 g)) (Nat.le_refl _) (Nat.le_refl _) (Nat.le_refl _)
  have np31 : np.I 66 31 = Int32.ofNat F := by
    rw [(r3 0).I6 31 (by omega) (by omega) (by omega) (by omega) (by omega) (by omega), noo 66 31 (by omega)]
    exact nl31
  have hbp : sh_Pb N K P V (p6 + 1) c6 0 g6 mp np := sh_Pb.mk q2 r2 (by omega) (by omega)
  rcases sh_pexp (d := 1) hT (by omega) hbp with ⟨z, mcf, mmf, s1, s2, s3, s4, s5⟩ | ⟨mq, nq, p7, c7, g7, e, ht2, s1, s2, hO⟩
  · have q31 : mmf.I 66 31 = Int32.ofNat F := by
      rw [s5.1.I6 31 (by omega) (by omega) (by omega) (by omega) (by omega) (by omega)]
      exact np31
    refine Or.inl ⟨z, mcf, (mmf.T, sh_u2 mmf.I 87 F (-1), mmf.J, mmf.s), s1, ?_, ?_, s4.cg ff6.cg, (s5.mg ff6.mg).w (by omega)⟩
    · rw [show (sq_44 sh_dp).f58 1 mp = _ from s2]
      rfl
    · rw [show (sq_240 sh_dp).f267 1 np = _ from s3, sh_bn_some, if_pos (okF _ np31), if_pos (okF _ q31), np31, q31, clF, sh_u2_same, if_pos (by decide)]
  have re := sh_R_e hO.r
  have elp := hO.lp
  have elc := hO.lc
  have ecc := hO.cc
  have elg := hO.lg
  have p7N := hO.pc.pN
  have nq31 : nq.I 66 31 = Int32.ofNat F := by
    rw [hO.mf.I6 31 (by omega) (by omega) (by omega) (by omega) (by omega) (by omega)]
    exact np31
  rw [show (sq_44 sh_dp).f58 1 mp = _ from s1, show (sq_240 sh_dp).f267 1 np = _ from s2, sh_bn_some, if_pos (okF _ np31), if_pos (okF _ nq31), np31, nq31, clF, sh_u2_same, if_neg (sh_nn (by omega))]
  show (∃ z mcf mmf, _ ∧ (sh_bt (sf_48 59 mq) _ _) = _ ∧ _) ∨ (∃ mc2 mm2 p2 c2 g2 ht, (sh_bt (sf_48 59 mq) _ _) = _ ∧ _)
  have ff7 : sh_Ff F c g mc mm mq nq := ff6.trans (sh_Ff.of hO.cf hO.mf) (Nat.le_refl _) cc gg
  obtain ⟨t1, t2⟩ := sh_mwr (x := 87) (i := F) (v := Int32.ofNat e) hO.pm (Or.inl (by omega))
  obtain ⟨nr, hnr⟩ : ∃ nr : sh_X, nr = (nq.T, sh_u2 nq.I 87 F (Int32.ofNat e), nq.J, nq.s) := ⟨_, rfl⟩
  have fnr : sh_Ff F c g mq nq mq nr := by rw [hnr]; exact sh_Ff.wm (by omega)
  rw [← hnr] at t1 t2 ⊢
  have nr87 : nr.I 87 F = Int32.ofNat e := by rw [hnr]; show sh_u2 nq.I 87 F (Int32.ofNat e) 87 F = _; exact sh_u2_same
  have nro : ∀ z y, z ≠ 87 → nr.I z y = nq.I z y := by intro z y hz; rw [hnr]; show sh_u2 nq.I 87 F (Int32.ofNat e) z y = _; rw [sh_u2_cell hz]
  have ff8 : sh_Ff F c g mc mm mq nr := ff7.trans fnr (Nat.le_refl _) (Nat.le_refl _) (Nat.le_refl _)
  rcases Classical.em (¬ K p7 = 59) with h59 | h59
  · exact Or.inl ⟨p7, _, _, p7N, by rw [sh_48f hO.pc h59]; rfl, by rw [sh_262f t1 (Or.inr (Or.inr (by decide))) h59, sh_bn_some, if_neg (by simp)], hO.pc.bad.cg ff8.cg, t1.bad.mg ff8.mg⟩
  replace h59 := Decidable.of_not_not h59
  have hp7N : p7 < N := hT.lt p7N (by rw [h59]; decide)
  obtain ⟨ms, u1, u2, u3⟩ := sh_48t hO.pc h59 hp7N
  obtain ⟨ns, v1, v2, v3⟩ := sh_262t t1 (Or.inr (Or.inr (by decide))) h59 hp7N
  rw [u1, v1, sh_bn_some, if_pos rfl]
  obtain ⟨mt, a1, a2, a3, a4, a5, a6⟩ := sh_56 (a := 18) (x := mp.I 39 4) (y := 0) u2 (by omega)
  show (∃ z mcf mmf, _ ∧ (sh_bn (sf_56 18 (mp.I 39 4) 0 ms) _) = _ ∧ _) ∨ (∃ mc2 mm2 p2 c2 g2 ht, (sh_bn (sf_56 18 (mp.I 39 4) 0 ms) _) = _ ∧ _)
  rw [a1, sh_bn_some]
  have ff9 : sh_Ff F c g mc mm mt ns := ff8.trans ((sh_Ff.of (u3 c 0) (v3 g)).trans (sh_Ff.of ((a3 0).less (show c ≤ c7 by omega) (Nat.le_refl _)) (sh_Mf.refl g ns)) (Nat.le_refl _) (Nat.le_refl _) (Nat.le_refl _)) (Nat.le_refl _) (Nat.le_refl _) (Nat.le_refl _)
  rcases Classical.em (¬ K (p7 + 1) = 125) with h125 | h125
  · exact Or.inl ⟨p7 + 1, _, _, by omega, by rw [sh_48f a2 h125]; rfl, by rw [sh_262f v2 (Or.inr (Or.inr (by decide))) h125, sh_bn_some, if_neg (by simp)], a2.bad.cg ff9.cg, v2.bad.mg ff9.mg⟩
  replace h125 := Decidable.of_not_not h125
  have hp8N : p7 + 1 < N := hT.lt (by omega) (by rw [h125]; decide)
  obtain ⟨mu, b4, b5, b6⟩ := sh_48t a2 h125 hp8N
  obtain ⟨nu, d4, d5, d6⟩ := sh_262t v2 (Or.inr (Or.inr (by decide))) h125 hp8N
  have nu31 : nu.I 66 31 = Int32.ofNat F := by
    rw [(d6 0).I6 31 (by omega) (by omega) (by omega) (by omega) (by omega) (by omega), (v3 0).I6 31 (by omega) (by omega) (by omega) (by omega) (by omega) (by omega), nro 66 31 (by omega)]
    exact nq31
  obtain ⟨x1, x2⟩ := sh_mwr (x := 66) (i := 31) (v := nu.I 66 31 + 1) d5 (Or.inr ⟨rfl, Or.inl rfl⟩)
  obtain ⟨nv, hnv⟩ : ∃ nv : sh_X, nv = (nu.T, sh_u2 nu.I 66 31 (nu.I 66 31 + 1), nu.J, nu.s) := ⟨_, rfl⟩
  have nvo : ∀ z y, z ≠ 66 → nv.I z y = nu.I z y := by intro z y hz; rw [hnv]; show sh_u2 nu.I 66 31 (nu.I 66 31 + 1) z y = _; rw [sh_u2_cell hz]
  have fnv : sh_Ff F c g mu nu mu nv := by
    refine sh_Ff.mk (sh_Cg.refl mu) (by rw [hnv]; exact x2) (fun _ _ => ⟨rfl, rfl, rfl⟩) ?_ ?_ ?_ (fun _ _ _ _ _ => rfl) (fun _ _ => rfl) rfl ?_
    · intro y _ z h1 h2; rw [nvo z y (by omega)]
    · intro z y h1 h2 _ _; rw [nvo z y (by omega)]
    · intro z y h1 h2 _; rw [nvo z y (by omega)]
    · rw [hnv]; show sh_u2 nu.I 66 31 (nu.I 66 31 + 1) 66 36 = _; rw [sh_u2_idx (by omega)]
  rw [← hnv] at x1
  -- the end's frames
  have ffe : sh_Ff F c g mc mm mu nv := ff9.trans ((sh_Ff.of (b6 c 0) (d6 g)).trans fnv (Nat.le_refl _) (Nat.le_refl _) (Nat.le_refl _)) (Nat.le_refl _) (Nat.le_refl _) (Nat.le_refl _)
  -- from the memory behind the body on, the FN's entries stay
  have afterC : ∀ z y, z ≠ 28 → z ≠ 36 → z ≠ 37 → z ≠ 38 → z ≠ 39 → z ≠ 40 → mu.I z y = mk.I z y := by
    intro z y h1 h2 h3 h4 h5 h6
    rw [(b6 0 0).I z h1 h2 h3 h4 h5 h6, (a3 0).I z h1 h2 h3 h4 h5 h6, (u3 0 0).I z h1 h2 h3 h4 h5 h6, hO.cf.I z h1 h2 h3 h4 h5 h6, (q3 0 0).I z h1 h2 h3 h4 h5 h6, hS.cf.I z h1 h2 h3 h4 h5 h6]
  have afterM : ∀ z y, 79 ≤ z → z ≤ 91 → z ≠ 86 → z ≠ 87 → nv.I z y = ng.I z y := by
    intro z y h1 h2 h3 h4
    rw [nvo z y (by omega), (d6 0).I z (by omega) (by omega), (v3 0).I z (by omega) (by omega), nro z y h4, hO.mf.I z (by omega) (by omega), (r3 0).I z (by omega) (by omega), noo z y h3, hS.mf.I z (by omega) (by omega), (j3 0).I z (by omega) (by omega)]
  have ngM : ∀ z y, 79 ≤ z → z ≤ 83 → z ≠ 80 → ng.I z y = mma.I z y := by
    intro z y h1 h2 h3
    rw [ngo z y (by omega) (by omega), (z6 0).I z (by omega) (by omega), (d3 0).I z (by omega) (by omega), mao z y h3]
  have mkC : ∀ z y, (z = 29 ∨ z = 33 ∨ z = 34) → mk.I z y = mca.I z y := by
    intro z y h1
    rw [mko z y (by omega) (by omega), (i3 0 0).I z (by omega) (by omega) (by omega) (by omega) (by omega) (by omega), (z5 0 0).I z (by omega) (by omega) (by omega) (by omega) (by omega) (by omega), mdo z y (by omega), (b3 0 0).I z (by omega) (by omega) (by omega) (by omega) (by omega) (by omega)]
  have partM : ∀ y, y < g7 → ∀ z, 72 ≤ z → z ≤ 78 → nv.I z y = nq.I z y := by
    intro y hy z h1 h2
    rw [nvo z y (by omega), (d6 g7).pt y hy z h1 h2, (v3 g7).pt y hy z h1 h2, nro z y (by omega)]
  have codeC : ∀ y, y < c7 → mu.I 36 y = mq.I 36 y ∧ mu.I 37 y = mq.I 37 y ∧ mu.I 38 y = mq.I 38 y := by
    intro y hy
    have w1 := (b6 (c7 + 1) 0).cd y (by omega)
    have w2 := (a3 0).cd y hy
    have w3 := (u3 c7 0).cd y hy
    exact ⟨w1.1.trans (w2.1.trans w3.1), w1.2.1.trans (w2.2.1.trans w3.2.1), w1.2.2.trans (w2.2.2.trans w3.2.2)⟩
  have codeR := (b6 (c7 + 1) 0).cd c7 (by omega)
  have hP1 := sh_Pup hT (show p ≤ p by omega) (show p ≤ N by omega)
  have hPp := hT.PL p (by omega)
  have hPr := hT.PL (p4 + 1) (by omega)
  have hPt := hT.PL p6 (by omega)
  rw [k8, show sp_L 8 = 2 by unfold sp_L; decide] at hPp
  rw [z8, show sp_L 3 = 2 by unfold sp_L; decide] at hPr
  rw [h14, show sp_L 14 = 6 by unfold sp_L; decide] at hPt
  have hu1 := sh_Pup hT (show p + 1 ≤ p4 + 1 by omega) (by omega)
  have hu2 := sh_Pup hT (show p4 + 1 + 1 ≤ p6 by omega) (by omega)
  have hu3 := sh_Pup hT (show p6 + 1 ≤ p7 + 1 + 1 by omega) (by omega)
  refine Or.inr ⟨mu, nv, p7 + 1 + 1, c7 + 1, g7, ht + ht2, by rw [b4]; rfl, by rw [d4, sh_bn_some, if_pos rfl, ← hnv], sh_Fi.mk b5 x1 ?_ ?_ (by omega) (by omega) (by omega), ffe, ?_, by omega, by omega, by omega⟩
  · rw [(b6 0 0).I28 12 (by omega), (a3 0).I28 12 (by omega), (u3 0 0).I28 12 (by omega), hO.cf.I28 12 (by omega), (q3 0 0).I28 12 (by omega), hS.cf.I28 12 (by omega)]
    exact mk12
  · rw [hnv]
    show sh_u2 nu.I 66 31 (nu.I 66 31 + 1) 66 31 = _
    rw [sh_u2_same, nu31, sh_nI1]
  · refine ⟨n, t, p4 + 1, p5 + 1, c6, g6, e, p6 + 1, n8, k8, k1, ?_, ?_, ?_, ?_, t0, ?_, ?_, by omega, by omega, by omega, by omega, by omega, ?_, ?_, ?_, by omega, by omega, by omega, by omega, ?_, ?_, ?_, ?_, ?_, ?_⟩
    · rw [afterM 79 F (by omega) (by omega) (by omega) (by omega), ngM 79 F (by omega) (by omega) (by omega)]; exact a79
    · rw [afterC 29 F (by omega) (by omega) (by omega) (by omega) (by omega) (by omega), mkC 29 F (by omega)]; exact c29
    · rw [afterM 80 F (by omega) (by omega) (by omega) (by omega), ngo 80 F (by omega) (by omega), (z6 0).I 80 (by omega) (by omega), (d3 0).I 80 (by omega) (by omega)]; exact ma80
    · rw [afterC 33 F (by omega) (by omega) (by omega) (by omega) (by omega) (by omega), mkC 33 F (by omega)]; exact c33
    · refine hpr.mono (fun k hk => ?_) (fun k hk => ?_)
      · exact ⟨(afterM 81 _ (by omega) (by omega) (by omega) (by omega)).trans (ngM 81 _ (by omega) (by omega) (by omega)), (afterM 82 _ (by omega) (by omega) (by omega) (by omega)).trans (ngM 82 _ (by omega) (by omega) (by omega)), (afterM 83 _ (by omega) (by omega) (by omega) (by omega)).trans (ngM 83 _ (by omega) (by omega) (by omega))⟩
      · exact (afterC 34 _ (by omega) (by omega) (by omega) (by omega) (by omega) (by omega)).trans (mkC 34 _ (by omega))
    · intro q; have := tn q; omega
    · rw [afterC 31 F (by omega) (by omega) (by omega) (by omega) (by omega) (by omega), mko 31 F (by omega) (by omega), (i3 0 0).I 31 (by omega) (by omega) (by omega) (by omega) (by omega) (by omega), (z5 0 0).I 31 (by omega) (by omega) (by omega) (by omega) (by omega) (by omega)]; exact md31
    · rw [afterM 84 F (by omega) (by omega) (by omega) (by omega), ng84, afterM 85 F (by omega) (by omega) (by omega) (by omega), ng85]
      refine ⟨z8, rfl, ?_⟩
      rcases z10 with ⟨y1, y2, y3⟩ | ⟨y1, y2, y3, y4⟩
      · exact Or.inl ⟨y1, y3⟩
      · exact Or.inr ⟨y1, y2, y4⟩
    · rw [afterC 30 F (by omega) (by omega) (by omega) (by omega) (by omega) (by omega)]; exact mk30
    · have e86 : nv.I 86 F = x := by
        rw [nvo 86 F (by omega), (d6 0).I 86 (by omega) (by omega), (v3 0).I 86 (by omega) (by omega), nro 86 F (by omega), hO.mf.I 86 (by omega) (by omega), (r3 0).I 86 (by omega) (by omega)]
        exact no86
      rw [e86]
      refine sh_Sl_fr hS.sl (by omega) (Nat.le_refl _) (Nat.le_refl _) (Nat.le_refl _) (by omega) (fun y y1 y2 z h1 h2 => ?_) (fun y y1 y2 => ?_)
      · rw [partM y (by omega) z h1 h2, hO.mf.pt y y2 z h1 h2, (r3 g6).pt y y2 z h1 h2, noo z y (by omega)]
      · have w1 := codeC y (by omega)
        have w2 := hO.cf.cd y y2
        have w3 := (q3 c6 0).cd y y2
        exact ⟨w1.1.trans (w2.1.trans w3.1), w1.2.1.trans (w2.2.1.trans w3.2.1), w1.2.2.trans (w2.2.2.trans w3.2.2)⟩
    · rw [nvo 87 F (by omega), (d6 0).I 87 (by omega) (by omega), (v3 0).I 87 (by omega) (by omega)]; exact nr87
    · rw [partM e re.2.1 78 (by omega) (by omega)]; exact hO.fi
    · rw [show c7 + 1 - 1 = c7 by omega]; exact codeR.1.trans a4
    · rw [show c7 + 1 - 1 = c7 by omega]; exact (codeR.2.1.trans a5).trans q2.at_
    · rw [show c7 + 1 - 1 = c7 by omega, show p7 + 1 + 1 - 2 = p7 by omega]
      have hr := sh_R_fr hO.r (A' := nv.I) (C' := mu.I) (fun y y1 y2 z h1 h2 => partM y y2 z h1 h2) (fun y y1 y2 => codeC y y2)
      exact sh_R_mono ht2 (ht + ht2) g6 g7 g6 g7 1 1 e c6 c7 (p6 + 1) p7 (p6 + 1) p7 hr (by omega) (Nat.le_refl _) (Nat.le_refl _) (Nat.le_refl _) (Nat.le_refl _) (Nat.le_refl _) (by omega) (fun _ _ _ => ⟨rfl, rfl, rfl, rfl⟩) (fun _ _ _ _ => ⟨rfl, rfl⟩) (fun _ _ _ => ⟨rfl, rfl, rfl⟩)
end
