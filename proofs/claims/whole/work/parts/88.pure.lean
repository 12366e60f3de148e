/-! PARSERS: calls -/
section
variable {N : Nat} {K : Nat → Int32} {P V : Nat → Nat}
theorem sh_62E {u : Nat} {d x2 x3 : Int32} {n k : Nat} {m : sh_X} : sf_62_93 (sq_44 u) d x2 x3 (Int32.ofNat n) false (Int32.ofNat k) m = sf_62_177 (sq_44 u) d x2 x3 (Int32.ofNat n) m := by
  unfold sf_62_93
  refine sh_wup ?_
  show sf_62_93s (sq_44 u) d x2 x3 (Int32.ofNat n) false (Int32.ofNat k) m = _
  unfold sf_62_93s
  split
  · rw [if_neg (by simp)]
  · rfl
/-- behind the arguments of a call -/
theorem sh_pcalle {d p c w g n ht u pe ce ge : Nat} {r b s a : Nat → Nat} {mc mm n1 mc2 mm2 mc1 : sh_X} (hd : d ≤ 40) (hK : K p = 1) (hat : mm.I 66 21 = Int32.ofNat p) (hL : sh_Li N K P V 1 ht d n g w r b s a mc1 n1 mc2 mm2 pe ce ge) (z4 : n = 0 ∧ s 0 = pe ∨ 1 ≤ n ∧ s n = pe + 1) (z5 : 3 * ce + 4 * s 0 ≤ 3 * b 0 + 4 * pe + 2) (z6 : b 0 = c + 2) (z7 : s 0 = p + 2) (hpe : pe < N) (h41 : K pe = 41)
    (e4 : n1.I 72 g = 5) (e5 : n1.I 73 g = mm.I 66 21) (e7 : n1.I 75 g = Int32.ofNat d) (e9 : n1.I 77 g = -1) (e10 : n1.I 78 g = mm.I 66 21)
    (c14 : mc1.I 36 c = 14 ∧ mc1.I 37 c = Int32.ofNat p) (c15 : mc1.I 36 (c + 1) = 15 ∧ mc1.I 37 (c + 1) = Int32.ofNat p ∧ mc1.I 38 (c + 1) = Int32.ofNat d) (cF : sh_Cf c w mc mc1) (mF : sh_Mf g mm n1) (ha : a 0 = g + 1) (hcc : ce < 5900) :
    ∃ m5, sf_62_177 (sq_44 u) (Int32.ofNat d) (Int32.ofNat p) (Int32.ofNat c) (Int32.ofNat n) mc2 = some (some (), m5) ∧ sh_Ok N K P V d p c w g mc mm m5 (mm2.T, sh_u2 mm2.I 66 21 (mm2.I 66 21 + 1), mm2.J, mm2.s) (pe + 1) (ce + 1) ge g (ht + 1) := by
  have n4 := hL.pc.N4
  have lg := hL.lg
  have bk := hL.bk
  have ak := hL.ak
  have sk := hL.sk
  have hup := hL.ls.up n (Nat.le_refl _)
  have hsn : s n ≤ pe + 1 := by
    rcases z4 with ⟨q0, q1⟩ | ⟨_, q1⟩
    · rw [q0]; omega
    · omega
  have hcf := hL.cf
  rw [z6] at hcf
  obtain ⟨m4, i1, i3, i4⟩ := sh_48t hL.pc h41 hpe
  obtain ⟨m6, s1, s2, s3, s4, s5, s6, s7⟩ := sh_63 (k := c) (y := Int32.ofNat n) i3 (by omega) (by omega)
  obtain ⟨m5, a1, a2, a3, a4, a5, a6⟩ := sh_56 (a := 17) (x := Int32.ofNat p) (y := Int32.ofNat d) s2 (by omega)
  obtain ⟨mA, mFA⟩ := sh_madv hL.pm hpe
  have cF3 : sh_Cf c w mc mc2 := cF.trans hcf (by omega) (Nat.le_refl _)
  have lo : ∀ y, y < ce → y ≠ c → m5.I 36 y = mc2.I 36 y ∧ m5.I 37 y = mc2.I 37 y ∧ m5.I 38 y = mc2.I 38 y := by
    intro y y1 y2
    have q1 := (a3 w).cd y (by omega)
    have q2 := (i4 ce w).cd y (by omega)
    exact ⟨q1.1.trans ((congrFun s5 y).trans q2.1), q1.2.1.trans ((congrFun s6 y).trans q2.2.1), q1.2.2.trans ((s7 y y2).trans q2.2.2)⟩
  have qc := (a3 w).cd c (by omega)
  have qi := (i4 ce w).cd c (by omega)
  have q0 := hcf.cd c (by omega)
  have q1 := hcf.cd (c + 1) (by omega)
  refine ⟨m5, ?_, sh_Ok.mk a2 mA ((cF3.trans (i4 c w) (Nat.le_refl _) (Nat.le_refl _)).trans ((s3 w).trans (a3 w) (by omega) (Nat.le_refl _)) (Nat.le_refl _) (Nat.le_refl _)) ((mF.trans hL.mf (Nat.le_refl _)).trans (mFA g) (Nat.le_refl _)) (by omega) (by omega) (by omega) (by omega) ?_ ?_ ?_⟩
  · unfold sf_62_177
    rw [i1]
    show sh_bn (sf_63 _ _ m4) _ = _
    rw [s1, sh_bn_some, a1]
    rfl
  · have go : ∀ x, 72 ≤ x → x ≤ 78 → x ≠ 74 → sh_u2 mm2.I 66 21 (mm2.I 66 21 + 1) x g = n1.I x g := by
      intro x h1 h2 h3
      rw [sh_u2_cell (by omega)]
      exact hL.ox x h1 h2 h3
    have hls : sp_Ls N K V (sh_u2 mm2.I 66 21 (mm2.I 66 21 + 1)) m5.I 1 ht d n r b s a := by
      refine hL.ls.mono (by omega) ?_ ?_
      · intro x h1 h2
        rw [sh_u2_cell (show (72 : Nat) ≠ 66 by omega), sh_u2_cell (show (73 : Nat) ≠ 66 by omega), sh_u2_cell (show (74 : Nat) ≠ 66 by omega), sh_u2_cell (show (75 : Nat) ≠ 66 by omega), sh_u2_cell (show (77 : Nat) ≠ 66 by omega), sh_u2_cell (show (78 : Nat) ≠ 66 by omega)]
        exact ⟨rfl, rfl, rfl, rfl, rfl, rfl⟩
      · intro y h1 h2
        exact lo y (by omega) (by omega)
    have l1 := lo (c + 1) (by omega) (by omega)
    unfold sp_R
    refine ⟨⟨by omega, by omega, hd, by omega, by omega⟩, p, ?_, by omega, by omega, Or.inr (Or.inr (Or.inr (Or.inr (Or.inr ⟨n, r, b, s, a, (fun k => a (k + 1)), d, ?_, hK, Nat.le_refl _, hd, ?_, ?_, ?_, ?_, ?_, ?_, ?_, ?_, ?_, z6, ?_, ?_, ?_, z7, by omega, by omega, ?_⟩))))⟩
    · exact ((go 73 (by omega) (by omega) (by omega)).trans e5).trans hat
    · exact (go 72 (by omega) (by omega) (by omega)).trans e4
    · exact (go 75 (by omega) (by omega) (by omega)).trans e7
    · intro q
      show sh_u2 mm2.I 66 21 (mm2.I 66 21 + 1) 74 g = _
      rw [sh_u2_cell (by omega)]
      exact hL.o0 q
    · intro q
      show sh_u2 mm2.I 66 21 (mm2.I 66 21 + 1) 74 g = _
      rw [sh_u2_cell (by omega)]
      exact hL.o1 q
    · exact (qc.1.trans ((congrFun s5 c).trans (qi.1.trans q0.1))).trans c14.1
    · exact (qc.2.1.trans ((congrFun s6 c).trans (qi.2.1.trans q0.2.1))).trans c14.2
    · exact qc.2.2.trans s4
    · exact (l1.1.trans q1.1).trans c15.1
    · exact (l1.2.1.trans q1.2.1).trans c15.2.1
    · exact (l1.2.2.trans q1.2.2).trans c15.2.2
    · rw [bk]; omega
    · rw [show ce + 1 - 1 = ce by omega]; exact a4
    · rw [show ce + 1 - 1 = ce by omega]; exact a6
    · intro k hk
      obtain ⟨x2, x3, x4, x5, x9⟩ := hls k hk
      obtain ⟨y1, y2, y3, y4⟩ := x5 rfl
      have j1 := hL.ls.up k (by omega)
      have j2 := hL.ls.up (k + 1) (by omega)
      exact ⟨⟨by omega, by show a (k + 1) ≤ ge; omega⟩, x2, x3, x4, y1, y2, y3, y4, x9⟩
  · show sh_u2 mm2.I 66 21 (mm2.I 66 21 + 1) 78 g = _
    rw [sh_u2_cell (by omega)]
    exact ((hL.ox 78 (by omega) (by omega) (by omega)).trans e10).trans hat
  · show sh_u2 mm2.I 66 21 (mm2.I 66 21 + 1) 77 g = _
    rw [sh_u2_cell (by omega)]
    exact (hL.ox 77 (by omega) (by omega) (by omega)).trans e9
theorem sh_pcall {d p c w g u v : Nat} {mc mm : sh_X} (hT : sh_Txt N K P V) (hX : sh_HX N K P V (d + 1)) (hb : sh_Pb N K P V p c w g mc mm) (hd : d ≤ 40) (hw : w ≤ 10 * d + 10) (hu : 5 * (40 - d) + 2 ≤ u) (hv : 16 * (40 - d) + 13 ≤ v) (hK : K p = 1) (hK1 : K (p + 1) = 40) : sh_Ep N K P V d p c w g mc mm (sf_61 (sq_44 (u + 1)) (Int32.ofNat d) mc) (sf_272 (sq_240 (v + 1)) (Int32.ofNat d) mm) := by
  have n4 := hb.pc.N4
  have bc := hb.bc
  have bg := hb.bg
  have pN := hb.pc.pN
  have hp : p < N := hT.lt pN (by rw [hK]; decide)
  have hp1 : p + 1 < N := hT.lt (by omega) (by rw [hK1]; decide)
  obtain ⟨k1, k2, k3⟩ := sh_mok hb.pm
  have mF := (sh_madv hb.pm hp).2
  have cF := (sh_adv hb.pc hp).2
  have hb1 := hb.adv hp
  have mFb := (sh_madv hb1.pm hp1).2
  have cFb := (sh_adv hb1.pc hp1).2
  have hb2 := hb1.adv hp1
  obtain ⟨x, x1, x2⟩ := hb.pm.wq.ty pN
  obtain ⟨q1, q2, q3⟩ := hb.pm.n1 hp
  have ecm : ((mc.T, sh_u2 (sh_u2 mc.I 39 4 (mc.I 39 4 + 1)) 39 4 (sh_u2 mc.I 39 4 (mc.I 39 4 + 1) 39 4 + 1), mc.J, mc.s) : sh_X) = (mc.T, sh_u2 (sh_u2 mc.I 39 4 (mc.I 39 4 + 1)) 39 4 (mc.I 39 4 + 1 + 1), mc.J, mc.s) := by rw [sh_u2_same]
  have emm : ((mm.T, sh_u2 (sh_u2 mm.I 66 21 (mm.I 66 21 + 1)) 66 21 (sh_u2 mm.I 66 21 (mm.I 66 21 + 1) 66 21 + 1), mm.J, mm.s) : sh_X) = (mm.T, sh_u2 (sh_u2 mm.I 66 21 (mm.I 66 21 + 1)) 66 21 (mm.I 66 21 + 1 + 1), mm.J, mm.s) := by rw [sh_u2_same]
  have hbp : sh_Pb N K P V (p + 2) c w g (mc.T, sh_u2 (sh_u2 mc.I 39 4 (mc.I 39 4 + 1)) 39 4 (mc.I 39 4 + 1 + 1), mc.J, mc.s) (mm.T, sh_u2 (sh_u2 mm.I 66 21 (mm.I 66 21 + 1)) 66 21 (mm.I 66 21 + 1 + 1), mm.J, mm.s) := by
    rw [← ecm, ← emm]
    exact hb2
  have cF2 : ∀ a b, sh_Cf a b mc (mc.T, sh_u2 (sh_u2 mc.I 39 4 (mc.I 39 4 + 1)) 39 4 (mc.I 39 4 + 1 + 1), mc.J, mc.s) := by
    intro a b
    rw [← ecm]
    exact (cF a b).trans (cFb a b) (Nat.le_refl _) (Nat.le_refl _)
  have mF2 : ∀ a, sh_Mf a mm (mm.T, sh_u2 (sh_u2 mm.I 66 21 (mm.I 66 21 + 1)) 66 21 (mm.I 66 21 + 1 + 1), mm.J, mm.s) := by
    intro a
    rw [← emm]
    exact (mF a).trans (mFb a) (Nat.le_refl _)
  obtain ⟨m1, a1, a2, a3, a4, a5, a6⟩ := sh_56 (a := 14) (x := mc.I 39 4) (y := 0) hbp.pc (by omega)
  obtain ⟨m2, b1, b2, b3, b4, b5, b6⟩ := sh_56 (a := 15) (x := mc.I 39 4) (y := Int32.ofNat d) a2 (by omega)
  obtain ⟨n1, e1, e2, e3, e4, e5, e6, e7, e8, e9, e10⟩ := sh_266 (k := 5) (t := mm.I 66 21) (a := -1) (b := Int32.ofNat d) hbp.pm (by omega)
  have mF3 : sh_Mf g mm n1 := (mF2 g).trans e3 (Nat.le_refl _)
  have cF3 : sh_Cf c w mc m2 := (cF2 c w).trans ((a3 w).trans (b3 w) (by omega) (Nat.le_refl _)) (Nat.le_refl _) (Nat.le_refl _)
  have c14 : m2.I 36 c = 14 ∧ m2.I 37 c = Int32.ofNat p := by
    have q := (b3 w).cd c (by omega)
    exact ⟨q.1.trans a4, (q.2.1.trans a5).trans hb.pc.at_⟩
  have c15 : m2.I 36 (c + 1) = 15 ∧ m2.I 37 (c + 1) = Int32.ofNat p ∧ m2.I 38 (c + 1) = Int32.ofNat d := ⟨b4, b5.trans hb.pc.at_, b6⟩
  have ec : sf_61 (sq_44 (u + 1)) (Int32.ofNat d) mc = if K (p + 2) = 41 then sf_62_177 (sq_44 u) (Int32.ofNat d) (Int32.ofNat p) (Int32.ofNat c) (Int32.ofNat 0) m2 else sf_62_93 (sq_44 u) (Int32.ofNat d) (Int32.ofNat p) (Int32.ofNat c) (Int32.ofNat 0) true (Int32.ofNat 0) m2 := by
    unfold sf_61
    rw [sh_45 hb.pc, sh_bc_some, if_pos hK, sh_idt]
    show sf_62 (sq_44 u) (Int32.ofNat d) mc = _
    unfold sf_62
    rw [sh_45 hb1.pc, sh_bc_some, if_pos hK1, a1, sh_bn_some, b1, sh_bn_some, sh_45 b2, sh_bc_some, hb.pc.at_]
    unfold sf_62_88
    by_cases h41 : K (p + 2) = 41
    · rw [if_pos h41, if_pos h41, ← sh_62E (k := 0)]
      rfl
    · rw [if_neg h41, if_neg h41]
      rfl
  obtain ⟨t1, t2, t3⟩ := sh_mok e2
  have em : sf_272 (sq_240 (v + 1)) (Int32.ofNat d) mm = if K (p + 2) = 41 then some (Int32.ofNat g, (n1.T, sh_u2 n1.I 66 21 (n1.I 66 21 + 1), n1.J, n1.s)) else sh_bn (sf_273_3 (sq_240 v) (Int32.ofNat g) (Int32.ofNat d) 41 (sh_lst 0 (fun _ => 0)) n1) fun r7 m17 => if r7 = true then some ((Int32.ofNat g, m17)) else some (((-1), m17)) := by
    rw [sh_272k hb.pm (by rw [hK]; decide) (by rw [hK]; decide) (by rw [hK]; decide) (by rw [hK]; decide) (by rw [hK]; decide)]
    rw [show sf_261 (mm.I 66 21) mm = some x by rw [hb.pm.at_]; exact x1, sh_bc_some, if_pos (x2.mpr (by rw [hK]; decide)), show sf_259 (mm.I 66 21) mm = some (decide (K p = 1)) by rw [hb.pm.at_]; exact hb.pm.wq.nm pN, sh_bc_some, decide_eq_true hK, if_pos rfl, if_pos q2, q3, if_pos ((hb.pm.wq.tk (by omega) (Or.inr (Or.inr (by decide)))).mpr hK1), e1, sh_bn_some, if_pos t1, t2]
    by_cases h41 : K (p + 2) = 41
    · rw [if_pos h41, if_pos ((e2.wq.tk (by omega) (Or.inr (Or.inr (by decide)))).mpr h41)]
    · rw [if_neg h41, if_neg (fun q => h41 ((e2.wq.tk (by omega) (Or.inr (Or.inr (by decide)))).mp q))]
      rfl
  have hstart : sh_Li N K P V 1 0 d 0 g w (fun _ => 0) (fun _ => c + 1 + 1) (fun _ => p + 2) (fun _ => g + 1) m2 n1 m2 n1 (p + 2) (c + 1 + 1) (g + 1) := sh_Li.start b2 e2 (by omega) (by omega) (by omega) e6
  rw [ec, em]
  by_cases h41 : K (p + 2) = 41
  · rw [if_pos h41, if_pos h41]
    obtain ⟨m5, r1, r2⟩ := sh_pcalle (u := u) hd hK hb.pm.at_ hstart (Or.inl ⟨rfl, rfl⟩) (by omega) rfl rfl (hT.lt (by omega) (by rw [h41]; decide)) h41 e4 e5 e7 e9 e10 c14 c15 cF3 mF3 rfl (by omega)
    exact Or.inr ⟨m5, _, _, _, _, g, _, r1, rfl, r2⟩
  · rw [if_neg h41, if_neg h41]
    have hloop := sh_plist (ar := 1) (sg := 41) (u := u) (v := v) (L := fun k m => sf_62_93 (sq_44 u) (Int32.ofNat d) (Int32.ofNat p) (Int32.ofNat c) (Int32.ofNat k) true (Int32.ofNat k) m) (E := fun n m => sf_62_177 (sq_44 u) (Int32.ofNat d) (Int32.ofNat p) (Int32.ofNat c) (Int32.ofNat n) m) hT hX hd hw hu hv (by omega) (Or.inr rfl)
      (fun k m mf hk hq => by
        show sf_62_93 _ _ _ _ _ _ _ _ = _
        unfold sf_62_93
        refine sh_wend ?_
        show sf_62_93s (sq_44 u) (Int32.ofNat d) (Int32.ofNat p) (Int32.ofNat c) (Int32.ofNat k) true (Int32.ofNat k) m = _
        unfold sf_62_93s
        rw [if_pos (sh_k4 hk), if_pos rfl, sh_nI1, hq]
        rfl)
      (fun k m m1 p0 c0 p1 c1 hk h0 hq h1 h6 => by
        obtain ⟨m9, y1, y2, y3, y4, y5, y6⟩ := sh_56 (a := 16) (x := m.I 39 4) (y := Int32.ofNat k) h1 (by omega)
        refine ⟨m9, y2, y3, fun _ => ⟨y4, y5, y6⟩, fun h44 => ?_, fun h44 => ?_⟩
        · show sf_62_93 _ _ _ _ _ _ _ _ = sf_62_93 _ _ _ _ _ _ _ _
          unfold sf_62_93
          refine sh_wstep ?_
          show sf_62_93s (sq_44 u) (Int32.ofNat d) (Int32.ofNat p) (Int32.ofNat c) (Int32.ofNat k) true (Int32.ofNat k) m = _
          unfold sf_62_93s
          rw [if_pos (sh_k4 hk), if_pos rfl, sh_nI1, hq]
          show sh_bn (sf_56 16 _ _ m1) _ = _
          rw [y1, sh_bn_some, sh_45 y2, sh_bc_some, if_pos h44]
          unfold sf_62_150 sf_62_167
          rw [if_pos rfl, sh_nI1]
          rfl
        · show sf_62_93 _ _ _ _ _ _ _ _ = _
          rw [← sh_62E (k := k + 1)]
          unfold sf_62_93
          refine sh_wstep ?_
          show sf_62_93s (sq_44 u) (Int32.ofNat d) (Int32.ofNat p) (Int32.ofNat c) (Int32.ofNat k) true (Int32.ofNat k) m = _
          unfold sf_62_93s
          rw [if_pos (sh_k4 hk), if_pos rfl, sh_nI1, hq]
          show sh_bn (sf_56 16 _ _ m1) _ = _
          rw [y1, sh_bn_some, sh_45 y2, sh_bc_some, if_neg h44]
          unfold sf_62_150 sf_62_167
          rw [if_neg (by simp), sp_at0, sh_nI1])
      N (p + 2) (c + 1 + 1) (g + 1) 0 0 _ _ _ _ m2 n1 (by omega) hstart rfl (by omega) rfl rfl rfl
    rcases hloop with ⟨z, mcf, mmf, z1, z2, z3, z4, z5⟩ | ⟨n, ht, r, b, s, a, mc2, mm2, pe, ce, ge, z1, z2, z3, hL, z4, z5, z6, z7, z8, z9, z10⟩
    · refine Or.inl ⟨z, mcf, mmf, z1, z2, ?_, z4.of cF3, z5.of mF3⟩
      rw [z3, sh_bn_some, if_neg (by simp)]
    · have peN := hL.pc.pN
      rw [show sf_62_93 (sq_44 u) (Int32.ofNat d) (Int32.ofNat p) (Int32.ofNat c) (Int32.ofNat 0) true (Int32.ofNat 0) m2 = _ from z2, z3]
      by_cases h41 : K pe = 41
      · rw [if_pos h41]
        obtain ⟨m5, r1, r2⟩ := sh_pcalle (u := u) hd hK hb.pm.at_ hL (Or.inr ⟨z1, z4⟩) z5 z6 z7 (hT.lt peN (by rw [h41]; decide)) h41 e4 e5 e7 e9 e10 c14 c15 cF3 mF3 z8 (by omega)
        exact Or.inr ⟨m5, _, _, _, _, g, _, r1, by rw [sh_bn_some, if_pos rfl], r2⟩
      · rw [if_neg h41]
        refine Or.inl ⟨pe, _, _, peN, ?_, by rw [sh_bn_some, if_neg (by simp)], (hL.pc.bad.of hL.cf).of cF3, (hL.pm.bad.of hL.mf).of mF3⟩
        show sf_62_177 _ _ _ _ _ _ = _
        unfold sf_62_177
        rw [sh_48f hL.pc h41]
        rfl
end
