/-! PARSERS: the loops over lists, side by side -/
section
variable {N : Nat} {K : Nat → Int32} {P V : Nat → Nat}
/-- the state in the midst of a list, whose part is g0; it began in mc0 and mm0 -/
def sh_Li (N : Nat) (K : Nat → Int32) (P V : Nat → Nat) (ar ht d k g0 w : Nat) (r b s a : Nat → Nat) (mc0 mm0 mc mm : sh_X) (p c g : Nat) : Prop := (sp_Pc N K P V p c w mc) ∧ (sh_Pm N K P V p g mm) ∧ (sh_Cf (b 0) w mc0 mc) ∧ (sh_Mf g0 mm0 mm) ∧ (sp_Ls N K V mm.I mc.I ar ht d k r b s a) ∧ (b k = c) ∧ (a k = g) ∧ (g0 < a 0) ∧ (k = 0 → mm.I 74 g0 = -1) ∧ (0 < k → mm.I 74 g0 = Int32.ofNat (r 0)) ∧ (∀ x, 72 ≤ x → x ≤ 78 → x ≠ 74 → mm.I x g0 = mm0.I x g0) ∧ (g + s 0 ≤ a 0 + p) ∧ (s 0 + k ≤ s k) ∧ (1 ≤ s 0) ∧ (3 * b 0 ≤ 4 * s 0 + 100) ∧ (a 0 ≤ s 0 + 10)
theorem sh_Li.pc {N : Nat} {K : Nat → Int32} {P V : Nat → Nat} {ar ht d k g0 w : Nat} {r b s a : Nat → Nat} {mc0 mm0 mc mm : sh_X} {p c g : Nat} (h : sh_Li N K P V ar ht d k g0 w r b s a mc0 mm0 mc mm p c g) : sp_Pc N K P V p c w mc := h.1
theorem sh_Li.pm {N : Nat} {K : Nat → Int32} {P V : Nat → Nat} {ar ht d k g0 w : Nat} {r b s a : Nat → Nat} {mc0 mm0 mc mm : sh_X} {p c g : Nat} (h : sh_Li N K P V ar ht d k g0 w r b s a mc0 mm0 mc mm p c g) : sh_Pm N K P V p g mm := h.2.1
theorem sh_Li.cf {N : Nat} {K : Nat → Int32} {P V : Nat → Nat} {ar ht d k g0 w : Nat} {r b s a : Nat → Nat} {mc0 mm0 mc mm : sh_X} {p c g : Nat} (h : sh_Li N K P V ar ht d k g0 w r b s a mc0 mm0 mc mm p c g) : sh_Cf (b 0) w mc0 mc := h.2.2.1
theorem sh_Li.mf {N : Nat} {K : Nat → Int32} {P V : Nat → Nat} {ar ht d k g0 w : Nat} {r b s a : Nat → Nat} {mc0 mm0 mc mm : sh_X} {p c g : Nat} (h : sh_Li N K P V ar ht d k g0 w r b s a mc0 mm0 mc mm p c g) : sh_Mf g0 mm0 mm := h.2.2.2.1
theorem sh_Li.ls {N : Nat} {K : Nat → Int32} {P V : Nat → Nat} {ar ht d k g0 w : Nat} {r b s a : Nat → Nat} {mc0 mm0 mc mm : sh_X} {p c g : Nat} (h : sh_Li N K P V ar ht d k g0 w r b s a mc0 mm0 mc mm p c g) : sp_Ls N K V mm.I mc.I ar ht d k r b s a := h.2.2.2.2.1
theorem sh_Li.bk {N : Nat} {K : Nat → Int32} {P V : Nat → Nat} {ar ht d k g0 w : Nat} {r b s a : Nat → Nat} {mc0 mm0 mc mm : sh_X} {p c g : Nat} (h : sh_Li N K P V ar ht d k g0 w r b s a mc0 mm0 mc mm p c g) : b k = c := h.2.2.2.2.2.1
theorem sh_Li.ak {N : Nat} {K : Nat → Int32} {P V : Nat → Nat} {ar ht d k g0 w : Nat} {r b s a : Nat → Nat} {mc0 mm0 mc mm : sh_X} {p c g : Nat} (h : sh_Li N K P V ar ht d k g0 w r b s a mc0 mm0 mc mm p c g) : a k = g := h.2.2.2.2.2.2.1
theorem sh_Li.a0 {N : Nat} {K : Nat → Int32} {P V : Nat → Nat} {ar ht d k g0 w : Nat} {r b s a : Nat → Nat} {mc0 mm0 mc mm : sh_X} {p c g : Nat} (h : sh_Li N K P V ar ht d k g0 w r b s a mc0 mm0 mc mm p c g) : g0 < a 0 := h.2.2.2.2.2.2.2.1
theorem sh_Li.o0 {N : Nat} {K : Nat → Int32} {P V : Nat → Nat} {ar ht d k g0 w : Nat} {r b s a : Nat → Nat} {mc0 mm0 mc mm : sh_X} {p c g : Nat} (h : sh_Li N K P V ar ht d k g0 w r b s a mc0 mm0 mc mm p c g) : k = 0 → mm.I 74 g0 = -1 := h.2.2.2.2.2.2.2.2.1
theorem sh_Li.o1 {N : Nat} {K : Nat → Int32} {P V : Nat → Nat} {ar ht d k g0 w : Nat} {r b s a : Nat → Nat} {mc0 mm0 mc mm : sh_X} {p c g : Nat} (h : sh_Li N K P V ar ht d k g0 w r b s a mc0 mm0 mc mm p c g) : 0 < k → mm.I 74 g0 = Int32.ofNat (r 0) := h.2.2.2.2.2.2.2.2.2.1
theorem sh_Li.ox {N : Nat} {K : Nat → Int32} {P V : Nat → Nat} {ar ht d k g0 w : Nat} {r b s a : Nat → Nat} {mc0 mm0 mc mm : sh_X} {p c g : Nat} (h : sh_Li N K P V ar ht d k g0 w r b s a mc0 mm0 mc mm p c g) : ∀ x, 72 ≤ x → x ≤ 78 → x ≠ 74 → mm.I x g0 = mm0.I x g0 := h.2.2.2.2.2.2.2.2.2.2.1
theorem sh_Li.lg {N : Nat} {K : Nat → Int32} {P V : Nat → Nat} {ar ht d k g0 w : Nat} {r b s a : Nat → Nat} {mc0 mm0 mc mm : sh_X} {p c g : Nat} (h : sh_Li N K P V ar ht d k g0 w r b s a mc0 mm0 mc mm p c g) : g + s 0 ≤ a 0 + p := h.2.2.2.2.2.2.2.2.2.2.2.1
theorem sh_Li.sk {N : Nat} {K : Nat → Int32} {P V : Nat → Nat} {ar ht d k g0 w : Nat} {r b s a : Nat → Nat} {mc0 mm0 mc mm : sh_X} {p c g : Nat} (h : sh_Li N K P V ar ht d k g0 w r b s a mc0 mm0 mc mm p c g) : s 0 + k ≤ s k := h.2.2.2.2.2.2.2.2.2.2.2.2.1
theorem sh_Li.s1 {N : Nat} {K : Nat → Int32} {P V : Nat → Nat} {ar ht d k g0 w : Nat} {r b s a : Nat → Nat} {mc0 mm0 mc mm : sh_X} {p c g : Nat} (h : sh_Li N K P V ar ht d k g0 w r b s a mc0 mm0 mc mm p c g) : 1 ≤ s 0 := h.2.2.2.2.2.2.2.2.2.2.2.2.2.1
theorem sh_Li.b0 {N : Nat} {K : Nat → Int32} {P V : Nat → Nat} {ar ht d k g0 w : Nat} {r b s a : Nat → Nat} {mc0 mm0 mc mm : sh_X} {p c g : Nat} (h : sh_Li N K P V ar ht d k g0 w r b s a mc0 mm0 mc mm p c g) : 3 * b 0 ≤ 4 * s 0 + 100 := h.2.2.2.2.2.2.2.2.2.2.2.2.2.2.1
theorem sh_Li.g9 {N : Nat} {K : Nat → Int32} {P V : Nat → Nat} {ar ht d k g0 w : Nat} {r b s a : Nat → Nat} {mc0 mm0 mc mm : sh_X} {p c g : Nat} (h : sh_Li N K P V ar ht d k g0 w r b s a mc0 mm0 mc mm p c g) : a 0 ≤ s 0 + 10 := h.2.2.2.2.2.2.2.2.2.2.2.2.2.2.2
theorem sh_Li.mk {N : Nat} {K : Nat → Int32} {P V : Nat → Nat} {ar ht d k g0 w : Nat} {r b s a : Nat → Nat} {mc0 mm0 mc mm : sh_X} {p c g : Nat} (pc : sp_Pc N K P V p c w mc) (pm : sh_Pm N K P V p g mm) (cf : sh_Cf (b 0) w mc0 mc) (mf : sh_Mf g0 mm0 mm) (ls : sp_Ls N K V mm.I mc.I ar ht d k r b s a) (bk : b k = c) (ak : a k = g) (a0 : g0 < a 0) (o0 : k = 0 → mm.I 74 g0 = -1) (o1 : 0 < k → mm.I 74 g0 = Int32.ofNat (r 0)) (ox : ∀ x, 72 ≤ x → x ≤ 78 → x ≠ 74 → mm.I x g0 = mm0.I x g0) (lg : g + s 0 ≤ a 0 + p) (sk : s 0 + k ≤ s k) (s1 : 1 ≤ s 0) (b0 : 3 * b 0 ≤ 4 * s 0 + 100) (g9 : a 0 ≤ s 0 + 10) : sh_Li N K P V ar ht d k g0 w r b s a mc0 mm0 mc mm p c g := ⟨pc, pm, cf, mf, ls, bk, ak, a0, o0, o1, ox, lg, sk, s1, b0, g9⟩
def sh_lst (k : Nat) (r : Nat → Nat) : Int32 := if k = 0 then -1 else Int32.ofNat (r (k - 1))
theorem sh_plist {ar d u v g0 w b00 s00 a00 : Nat} {sg : Int32} {mc0 mm0 : sh_X} {L E : Nat → sh_X → Option (Option Unit × sh_X)} (hT : sh_Txt N K P V) (hX : sh_HX N K P V (d + 1)) (hd : d ≤ 40) (hw : w ≤ 10 * d + 10) (hu : 5 * (40 - d) + 2 ≤ u) (hv : 16 * (40 - d) + 13 ≤ v) (har : ar ≤ 1) (hsg : sg = 93 ∨ sg = 41)
    (hLf : ∀ k m mf, k < 4000 → (sq_44 u).f58 (Int32.ofNat (d + 1)) m = some (none, mf) → L k m = some (none, mf))
    (hLc : ∀ k m m1 p c p1 c1, k < 4000 → sp_Pc N K P V p c w m → (sq_44 u).f58 (Int32.ofNat (d + 1)) m = some (some (), m1) → sp_Pc N K P V p1 c1 w m1 → c1 + 1 < 6000 → ∃ m2, sp_Pc N K P V p1 (c1 + ar) w m2 ∧ (∀ b, sh_Cf c1 b m1 m2) ∧ (ar = 1 → m2.I 36 c1 = 16 ∧ m2.I 37 c1 = m.I 39 4 ∧ m2.I 38 c1 = Int32.ofNat k) ∧ (K p1 = 44 → L k m = L (k + 1) (m2.T, sh_u2 m2.I 39 4 (m2.I 39 4 + 1), m2.J, m2.s)) ∧ (¬ K p1 = 44 → L k m = E (k + 1) m2)) :
    ∀ (f p c g k ht : Nat) (r b s a : Nat → Nat) (mc mm : sh_X), N ≤ p + f → sh_Li N K P V ar ht d k g0 w r b s a mc0 mm0 mc mm p c g → s k = p → 3 * c + 4 * s 0 ≤ 3 * b 0 + 4 * p → b 0 = b00 → s 0 = s00 → a 0 = a00 →
    (∃ z mcf mmf, z ≤ N ∧ L k mc = some (none, mcf) ∧ sf_273_3 (sq_240 v) (Int32.ofNat g0) (Int32.ofNat d) sg (sh_lst k r) mm = some (false, mmf) ∧ sh_bdc P z mc0 mcf ∧ sh_bdm P z mm0 mmf) ∨
    (∃ n ht2 r2 b2 s2 a2 mc2 mm2 pe ce ge, 1 ≤ n ∧ L k mc = E n mc2 ∧ sf_273_3 (sq_240 v) (Int32.ofNat g0) (Int32.ofNat d) sg (sh_lst k r) mm = (if K pe = sg then some (true, (mm2.T, sh_u2 mm2.I 66 21 (mm2.I 66 21 + 1), mm2.J, mm2.s)) else some (false, sh_mft 2 (mm2.I 69 pe) mm2)) ∧
      sh_Li N K P V ar ht2 d n g0 w r2 b2 s2 a2 mc0 mm0 mc2 mm2 pe ce ge ∧ s2 n = pe + 1 ∧ 3 * ce + 4 * s2 0 ≤ 3 * b2 0 + 4 * pe + 2 ∧ b2 0 = b00 ∧ s2 0 = s00 ∧ a2 0 = a00 ∧ ¬ K pe = 44 ∧ s2 0 < pe) := by
  intro f
  induction f with
  | zero =>
    intro p c g k ht r b s a mc mm hf hL hs hcp e1 e2 e3
    -- there is no word: both fail
    have n4 := hL.pc.N4
    have pN := hL.pc.pN
    have hp : p = N := by omega
    have sk := hL.sk
    have s1 := hL.s1
    have lg := hL.lg
    have b0 := hL.b0
    have g9 := hL.g9
    have hb : sh_Pb N K P V p c w g mc mm := sh_Pb.mk hL.pc hL.pm (by omega) (by omega)
    left
    rcases hX u v (by omega) (by omega) p c w g mc mm hb (by omega) with ⟨z, mcf, mmf, z1, z2, z3, z4, z5⟩ | ⟨mc2, mm2, p2, c2, g2, e, ht2, z1, z2, hO⟩
    · refine ⟨z, mcf, mmf, z1, hLf k mc mcf (by omega) z2, ?_, z4.of hL.cf, z5.of hL.mf⟩
      unfold sf_273_3
      refine sh_wend ?_
      show sf_273_3s (sq_240 v) (Int32.ofNat g0) (Int32.ofNat d) sg (sh_lst k r) mm = _
      unfold sf_273_3s
      rw [sh_nI1, z3, sh_bn_some, if_pos (by decide)]
    · have := hO.lp
      have := hO.pc.pN
      omega
  | succ f ih =>
    intro p c g k ht r b s a mc mm hf hL hs hcp e1 e2 e3
    have n4 := hL.pc.N4
    have pN := hL.pc.pN
    have sk := hL.sk
    have s1 := hL.s1
    have lg := hL.lg
    have b0 := hL.b0
    have g9 := hL.g9
    have hb : sh_Pb N K P V p c w g mc mm := sh_Pb.mk hL.pc hL.pm (by omega) (by omega)
    rcases hX u v (by omega) (by omega) p c w g mc mm hb (by omega) with ⟨z, mcf, mmf, z1, z2, z3, z4, z5⟩ | ⟨mc2, mm2, p2, c2, g2, e, ht2, z1, z2, hO⟩
    · left
      refine ⟨z, mcf, mmf, z1, hLf k mc mcf (by omega) z2, ?_, z4.of hL.cf, z5.of hL.mf⟩
      unfold sf_273_3
      refine sh_wend ?_
      show sf_273_3s (sq_240 v) (Int32.ofNat g0) (Int32.ofNat d) sg (sh_lst k r) mm = _
      unfold sf_273_3s
      rw [sh_nI1, z3, sh_bn_some, if_pos (by decide)]
    · have re := sh_R_e hO.r
      have lp := hO.lp
      have lc := hO.lc
      have lgg := hO.lg
      have cc := hO.cc
      have p2N := hO.pc.pN
      have bk := hL.bk
      have ak := hL.ak
      have a0 := hL.a0
      have hup := hL.ls.up k (Nat.le_refl _)
      obtain ⟨m2, x1, x2, x3, x4, x5⟩ := hLc k mc mc2 p c p2 c2 (by omega) hL.pc z1 hO.pc (by omega)
      -- the model's link to the new element
      have hlastg : 0 < k → g0 < r (k - 1) ∧ r (k - 1) < g ∧ a 0 ≤ r (k - 1) := by
        intro hk0
        obtain ⟨_, _, _, _, y9⟩ := hL.ls (k - 1) (by omega)
        have y := sh_R_e y9
        have q1 := hL.ls.up (k - 1) (by omega)
        rw [show k - 1 + 1 = k by omega] at y
        omega
      have hM : ∃ m3, sf_273_3s (sq_240 v) (Int32.ofNat g0) (Int32.ofNat d) sg (sh_lst k r) mm = sf_273_44 (sq_240 v) (Int32.ofNat g0) (Int32.ofNat d) sg (Int32.ofNat e) m3 ∧ sh_Pm N K P V p2 g2 m3 ∧ sh_Mf g0 mm2 m3 ∧ (∀ x, 72 ≤ x → x ≤ 78 → x ≠ 74 → m3.I x g0 = mm2.I x g0) ∧ (k = 0 → m3.I 74 g0 = Int32.ofNat e) ∧ (0 < k → m3.I 74 g0 = mm2.I 74 g0) ∧ (0 < k → m3.I 77 (r (k - 1)) = Int32.ofNat e) ∧ (∀ y, g0 < y → ∀ x, 72 ≤ x → x ≤ 78 → (x ≠ 77 ∨ k = 0 ∨ y ≠ r (k - 1)) → m3.I x y = mm2.I x y) := by
        by_cases hk0 : k = 0
        · obtain ⟨f1, f2⟩ := sh_pset (e := g0) (x := 74) (v := Int32.ofNat e) hO.pm (by omega)
          refine ⟨_, ?_, f1, f2, ?_, ?_, ?_, ?_, ?_⟩
          · unfold sf_273_3s sh_lst
            rw [if_pos hk0, sh_nI1, z2, sh_bn_some, if_neg (sh_nn (by omega)), if_pos (by decide), if_pos ((sh_okn (by omega)).mpr (by omega)), sh_nIc (by omega)]
          · intro x h1 h2 h3
            simp only [sh_X.I, sh_u2_cell h3]
          · intro _
            simp only [sh_X.I, sh_u2_same]
          · intro q; omega
          · intro q; omega
          · intro y hy x h1 h2 _
            simp only [sh_X.I]
            by_cases hx : x = 74
            · subst hx; rw [sh_u2_idx (by omega)]
            · rw [sh_u2_cell hx]
        · have hlg := hlastg (by omega)
          obtain ⟨f1, f2⟩ := sh_pset (e := r (k - 1)) (x := 77) (v := Int32.ofNat e) hO.pm (by omega)
          refine ⟨_, ?_, f1, f2.less (by omega), ?_, ?_, ?_, ?_, ?_⟩
          · unfold sf_273_3s sh_lst
            rw [if_neg hk0, sh_nI1, z2, sh_bn_some, if_neg (sh_nn (by omega)), if_neg (sh_nn (by omega)), if_pos ((sh_okn (by omega)).mpr (by omega)), sh_nIc (by omega)]
          · intro x h1 h2 h3
            simp only [sh_X.I]
            by_cases hx : x = 77
            · subst hx; rw [sh_u2_idx (by omega)]
            · rw [sh_u2_cell hx]
          · intro q; omega
          · intro _
            simp only [sh_X.I, sh_u2_cell (show (74 : Nat) ≠ 77 by omega)]
          · intro _
            simp only [sh_X.I, sh_u2_same]
          · intro y hy x h1 h2 h3
            simp only [sh_X.I]
            by_cases hx : x = 77
            · subst hx
              rw [sh_u2_idx (by omega)]
            · rw [sh_u2_cell hx]
      obtain ⟨m3, y1, y2, y3, y4, y5, y6, y7, y8⟩ := hM
      -- the list with the new element
      have hLs : sp_Ls N K V m3.I m2.I ar (ht + ht2) d (k + 1) (fun j => if j = k then e else r j) (fun j => if j = k + 1 then c2 + ar else b j) (fun j => if j = k + 1 then p2 + 1 else s j) (fun j => if j = k + 1 then g2 else a j) := by
        refine sp_Ls.snoc (A := mm.I) (C := mc.I) (by omega) hL.ls ?_ ?_ ?_ ?_ ?_ ?_ ?_ ?_ har ?_
        · intro x h1 h2
          have q : ∀ z, 72 ≤ z → z ≤ 78 → z ≠ 77 → m3.I z x = mm.I z x := fun z z1 z2 z3 => (y8 x (by omega) z z1 z2 (Or.inl z3)).trans (hO.mf.pt x (by omega) z z1 z2)
          exact ⟨q 72 (by omega) (by omega) (by omega), q 73 (by omega) (by omega) (by omega), q 74 (by omega) (by omega) (by omega), q 75 (by omega) (by omega) (by omega), q 78 (by omega) (by omega) (by omega)⟩
        · intro x h1 h2 h3
          exact (y8 x (by omega) 77 (by omega) (by omega) (Or.inr h3)).trans (hO.mf.pt x (by omega) 77 (by omega) (by omega))
        · exact y7
        · intro y h1 h2
          have q1 := (x2 w).cd y (by omega)
          have q2 := hO.cf.cd y (by omega)
          exact ⟨q1.1.trans q2.1, q1.2.1.trans q2.2.1, q1.2.2.trans q2.2.2⟩
        · rw [ak, bk, hs, show c2 + ar - ar = c2 by omega, show p2 + 1 - 1 = p2 by omega]
          refine sh_R_mono ht2 ht2 g g2 g g2 (d + 1) (d + 1) e c c2 p p2 p p2 hO.r (Nat.le_refl _) (Nat.le_refl _) (Nat.le_refl _) (Nat.le_refl _) (Nat.le_refl _) (Nat.le_refl _) (by omega) ?_ ?_ ?_
          · intro x h1 h2
            have q : ∀ z, 72 ≤ z → z ≤ 78 → z ≠ 77 → m3.I z x = mm2.I z x := fun z z1 z2 z3 => y8 x (by omega) z z1 z2 (Or.inl z3)
            exact ⟨q 72 (by omega) (by omega) (by omega), q 73 (by omega) (by omega) (by omega), q 74 (by omega) (by omega) (by omega), q 75 (by omega) (by omega) (by omega)⟩
          · intro x h1 h2 h3
            refine ⟨y8 x (by omega) 77 (by omega) (by omega) (Or.inr ?_), y8 x (by omega) 78 (by omega) (by omega) (Or.inl (by omega))⟩
            by_cases hk0 : k = 0
            · exact Or.inl hk0
            · have := hlastg (by omega)
              exact Or.inr (by omega)
          · intro y h1 h2
            exact (x2 w).cd y h2
        · rw [y8 e (by omega) 77 (by omega) (by omega) (Or.inr (by
            by_cases hk0 : k = 0
            · exact Or.inl hk0
            · have := hlastg (by omega)
              exact Or.inr (by omega)))]
          exact hO.nx
        · omega
        · omega
        · intro q
          obtain ⟨g1, g2', g3⟩ := x3 q
          have e78 : m3.I 78 e = Int32.ofNat p := by rw [y8 e (by omega) 78 (by omega) (by omega) (Or.inl (by omega))]; exact hO.fi
          rw [q, show c2 + 1 - 1 = c2 by omega, hs]
          exact ⟨g1, by rw [g2', e78]; exact hL.pc.at_, e78, g3⟩
      have hLi : sh_Li N K P V ar (ht + ht2) d (k + 1) g0 w (fun j => if j = k then e else r j) (fun j => if j = k + 1 then c2 + ar else b j) (fun j => if j = k + 1 then p2 + 1 else s j) (fun j => if j = k + 1 then g2 else a j) mc0 mm0 m2 m3 p2 (c2 + ar) g2 := by
        refine sh_Li.mk x1 y2 ?_ ?_ hLs ?_ ?_ ?_ ?_ ?_ ?_ ?_ ?_ ?_ ?_ ?_
        · simp only [if_neg (show ¬ 0 = k + 1 by omega)]
          exact hL.cf.trans (hO.cf.trans (x2 w) (by omega) (Nat.le_refl _)) (by omega) (Nat.le_refl _)
        · exact hL.mf.trans ((hO.mf.less (show g0 ≤ g by omega)).trans y3 (Nat.le_refl _)) (Nat.le_refl _)
        · simp only [if_true]
        · simp only [if_true]
        · simp only [if_neg (show ¬ 0 = k + 1 by omega)]
          exact a0
        · intro q; omega
        · intro _
          by_cases hk0 : k = 0
          · simp only [if_pos (show 0 = k by omega)]
            exact y5 hk0
          · simp only [if_neg (show ¬ 0 = k by omega)]
            rw [y6 (by omega), hO.mf.pt g0 (by omega) 74 (by omega) (by omega)]
            exact hL.o1 (by omega)
        · intro x h1 h2 h3
          rw [y4 x h1 h2 h3, hO.mf.pt g0 (by omega) x h1 h2]
          exact hL.ox x h1 h2 h3
        · simp only [if_neg (show ¬ 0 = k + 1 by omega)]
          omega
        · simp only [if_true, if_neg (show ¬ 0 = k + 1 by omega)]
          omega
        · simp only [if_neg (show ¬ 0 = k + 1 by omega)]
          exact s1
        · simp only [if_neg (show ¬ 0 = k + 1 by omega)]
          exact b0
        · simp only [if_neg (show ¬ 0 = k + 1 by omega)]
          exact g9
      obtain ⟨k1, k2, k3⟩ := sh_mok y2
      have hsg33 : sg = 0 ∨ sg = 2 ∨ 33 ≤ sg.toInt := by rcases hsg with q | q <;> (rw [q]; exact Or.inr (Or.inr (by decide)))
      by_cases h44 : K p2 = 44
      · -- one more
        have hp2 : p2 < N := hT.lt p2N (by rw [h44]; decide)
        have hnsg : ¬ K p2 = sg := by rw [h44]; rcases hsg with q | q <;> (rw [q]; decide)
        obtain ⟨cA, cF⟩ := sh_adv x1 hp2
        obtain ⟨m4, t1, t2, t3⟩ := sh_262t y2 (Or.inr (Or.inr (by decide))) h44 hp2
        have hstep : sf_273_3 (sq_240 v) (Int32.ofNat g0) (Int32.ofNat d) sg (sh_lst k r) mm = sf_273_3 (sq_240 v) (Int32.ofNat g0) (Int32.ofNat d) sg (sh_lst (k + 1) (fun j => if j = k then e else r j)) m4 := by
          unfold sf_273_3
          refine sh_wstep ?_
          show sf_273_3s (sq_240 v) (Int32.ofNat g0) (Int32.ofNat d) sg (sh_lst k r) mm = _
          rw [y1]
          unfold sf_273_44
          rw [if_pos k1, k2, if_neg (fun q => hnsg ((y2.wq.tk p2N hsg33).mp q)), t1, sh_bn_some, if_pos rfl]
          unfold sh_lst
          rw [if_neg (show ¬ k + 1 = 0 by omega)]
          simp only [show k + 1 - 1 = k by omega, if_true]
        rw [hstep, x4 h44]
        have hLi2 : sh_Li N K P V ar (ht + ht2) d (k + 1) g0 w (fun j => if j = k then e else r j) (fun j => if j = k + 1 then c2 + ar else b j) (fun j => if j = k + 1 then p2 + 1 else s j) (fun j => if j = k + 1 then g2 else a j) mc0 mm0 (m2.T, sh_u2 m2.I 39 4 (m2.I 39 4 + 1), m2.J, m2.s) m4 (p2 + 1) (c2 + ar) g2 := by
          have tf := t3 g2
          refine sh_Li.mk cA t2 (hLi.cf.trans (cF _ w) (Nat.le_refl _) (Nat.le_refl _)) (hLi.mf.trans (t3 g0) (Nat.le_refl _)) ?_ hLi.bk hLi.ak hLi.a0 ?_ ?_ ?_ ?_ hLi.sk hLi.s1 hLi.b0 hLi.g9
          · refine hLi.ls.mono ?_ ?_ ?_
            · simp only [if_true]; omega
            · intro x h1 h2
              simp only [if_true] at h2
              exact ⟨tf.pt x h2 72 (by omega) (by omega), tf.pt x h2 73 (by omega) (by omega), tf.pt x h2 74 (by omega) (by omega), tf.pt x h2 75 (by omega) (by omega), tf.pt x h2 78 (by omega) (by omega), tf.pt x h2 77 (by omega) (by omega)⟩
            · intro y h1 h2
              simp only [if_true] at h2
              exact (cF (c2 + ar) w).cd y h2
          · intro q; omega
          · intro q
            rw [tf.pt g0 (by omega) 74 (by omega) (by omega)]
            exact hLi.o1 q
          · intro x h1 h2 h3
            rw [tf.pt g0 (by omega) x h1 h2]
            exact hLi.ox x h1 h2 h3
          · have := hLi.lg
            omega
        exact ih (p2 + 1) (c2 + ar) g2 (k + 1) (ht + ht2) _ _ _ _ _ m4 (by omega) hLi2 (by simp only [if_true]) (by simp only [if_neg (show ¬ 0 = k + 1 by omega)]; omega) (by simp only [if_neg (show ¬ 0 = k + 1 by omega)]; exact e1) (by simp only [if_neg (show ¬ 0 = k + 1 by omega)]; exact e2) (by simp only [if_neg (show ¬ 0 = k + 1 by omega)]; exact e3)
      · right
        refine ⟨k + 1, ht + ht2, _, _, _, _, m2, m3, p2, c2 + ar, g2, by omega, x5 h44, ?_, hLi, by simp only [if_true], by simp only [if_neg (show ¬ 0 = k + 1 by omega)]; omega, by simp only [if_neg (show ¬ 0 = k + 1 by omega)]; exact e1, by simp only [if_neg (show ¬ 0 = k + 1 by omega)]; exact e2, by simp only [if_neg (show ¬ 0 = k + 1 by omega)]; exact e3, h44, by simp only [if_neg (show ¬ 0 = k + 1 by omega)]; omega⟩
        unfold sf_273_3
        by_cases hs2 : K p2 = sg
        · rw [if_pos hs2]
          refine sh_wend ?_
          show sf_273_3s (sq_240 v) (Int32.ofNat g0) (Int32.ofNat d) sg (sh_lst k r) mm = _
          rw [y1]
          unfold sf_273_44
          rw [if_pos k1, k2, if_pos ((y2.wq.tk p2N hsg33).mpr hs2)]
        · rw [if_neg hs2]
          refine sh_wend ?_
          show sf_273_3s (sq_240 v) (Int32.ofNat g0) (Int32.ofNat d) sg (sh_lst k r) mm = _
          rw [y1]
          unfold sf_273_44
          rw [if_pos k1, k2, if_neg (fun q => hs2 ((y2.wq.tk p2N hsg33).mp q)), sh_262f y2 (Or.inr (Or.inr (by decide))) h44, sh_bn_some, if_neg (by simp)]
end
