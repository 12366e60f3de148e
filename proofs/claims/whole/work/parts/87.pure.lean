/-! PARSERS: rows -/
section
variable {N : Nat} {K : Nat → Int32} {P V : Nat → Nat}
theorem sh_u2_id {α : Type} {I : Nat → Nat → α} {a i : Nat} : sh_u2 I a i (I a i) = I := by
  funext b j
  unfold sh_u2
  split
  · rename_i h
    split
    · rename_i h2; rw [h, h2]
    · rfl
  · rfl
theorem sp_at0 (m : sh_X) : ((m.T, sh_u2 m.I 39 4 (m.I 39 4 + sh_b2 false), m.J, m.s) : sh_X) = m := by
  rw [show sh_b2 false = 0 from rfl, Int32.add_zero, sh_u2_id]
theorem sh_idt (q : Option (Option Unit × sh_X)) : (sh_bt q (fun m => (none, m)) fun _ m2 => some (some (), m2)) = q := by
  rcases q with _ | ⟨_ | r, m⟩ <;> rfl
theorem sh_67E {u : Nat} {d x2 : Int32} {n k : Nat} {m : sh_X} : sf_67_23 (sq_44 u) d x2 (Int32.ofNat n) false (Int32.ofNat k) m = sf_67_87 (sq_44 u) x2 (Int32.ofNat n) m := by
  unfold sf_67_23
  refine sh_wup ?_
  show sf_67_23s (sq_44 u) d x2 (Int32.ofNat n) false (Int32.ofNat k) m = _
  unfold sf_67_23s
  split
  · rw [if_neg (by simp)]
  · rfl
theorem sh_k4 {k : Nat} (h : k < 4000) : Int32.ofNat k < 4000 := (sh_nIlt (b := 4000) (by omega) (by omega)).mpr h
/-- a list begins -/
theorem sh_Li.start {ar d g0 w p c : Nat} {mc mm : sh_X} (hc : sp_Pc N K P V p c w mc) (hm : sh_Pm N K P V p (g0 + 1) mm) (h1 : 1 ≤ p) (hb : 3 * c ≤ 4 * p + 100) (hg : g0 + 1 ≤ p + 10) (ho : mm.I 74 g0 = -1) : sh_Li N K P V ar 0 d 0 g0 w (fun _ => 0) (fun _ => c) (fun _ => p) (fun _ => g0 + 1) mc mm mc mm p c (g0 + 1) :=
  sh_Li.mk hc hm (sh_Cf.refl c w mc) (sh_Mf.refl g0 mm) (fun j hj => absurd hj (by omega)) rfl rfl (by omega) (fun _ => ho) (fun q => absurd q (by omega)) (fun _ _ _ _ => rfl) (by omega) (by omega) h1 hb hg
theorem sh_prow {d p c w g u v : Nat} {mc mm : sh_X} (hT : sh_Txt N K P V) (hX : sh_HX N K P V (d + 1)) (hb : sh_Pb N K P V p c w g mc mm) (hd : d ≤ 40) (hw : w ≤ 10 * d + 10) (hu : 5 * (40 - d) + 2 ≤ u) (hv : 16 * (40 - d) + 13 ≤ v) (hK : K p = 91) : sh_Ep N K P V d p c w g mc mm (sf_61 (sq_44 (u + 1)) (Int32.ofNat d) mc) (sf_272 (sq_240 (v + 1)) (Int32.ofNat d) mm) := by
  have n4 := hb.pc.N4
  have bc := hb.bc
  have bg := hb.bg
  have pN := hb.pc.pN
  have hp : p < N := hT.lt pN (by rw [hK]; decide)
  obtain ⟨k1, k2, k3⟩ := sh_mok hb.pm
  have mF := (sh_madv hb.pm hp).2
  have cF := (sh_adv hb.pc hp).2
  have hb1 := hb.adv hp
  obtain ⟨n1, e1, e2, e3, e4, e5, e6, e7, e8, e9, e10⟩ := sh_266 (k := 7) (t := mm.I 66 21) (a := -1) (b := -1) hb1.pm (by omega)
  have ec : sf_61 (sq_44 (u + 1)) (Int32.ofNat d) mc = sf_67_23 (sq_44 u) (Int32.ofNat d) (Int32.ofNat p) (Int32.ofNat 0) true (Int32.ofNat 0) (mc.T, sh_u2 mc.I 39 4 (mc.I 39 4 + 1), mc.J, mc.s) := by
    unfold sf_61
    rw [sh_45 hb.pc, sh_bc_some, if_neg (by rw [hK]; decide), if_neg (by rw [hK]; decide), if_neg (by rw [hK]; decide), if_neg (by rw [hK]; decide), if_neg (by rw [hK]; decide), if_pos hK, sh_idt]
    show sf_67 (sq_44 u) (Int32.ofNat d) mc = _
    unfold sf_67
    rw [hb.pc.at_]
    rfl
  have em : sf_272 (sq_240 (v + 1)) (Int32.ofNat d) mm = sh_bn (sf_273_3 (sq_240 v) (Int32.ofNat g) (Int32.ofNat d) 93 (sh_lst 0 (fun _ => 0)) n1) fun r7 m17 =>
                  if r7 = true then
                    some ((Int32.ofNat g, m17))
                  else
                    some (((-1), m17)) := by
    have t19 : sf_256 (mm.I 66 21) 19 mm = some (decide (K p = Int32.ofNat (4 + 11))) := by rw [hb.pm.at_]; exact hb.pm.wq.wd pN (show 11 < 12 by omega)
    have t12 : sf_256 (mm.I 66 21) 12 mm = some (decide (K p = Int32.ofNat (4 + 3))) := by rw [hb.pm.at_]; exact hb.pm.wq.wd pN (show 3 < 12 by omega)
    unfold sf_272
    rw [if_pos k1, k2, if_neg (fun q => absurd ((hb.pm.wq.tk pN (Or.inr (Or.inl rfl))).mp q) (by rw [hK]; decide)), t19, sh_bc_some, decide_eq_false (show ¬ K p = Int32.ofNat (4 + 11) by rw [hK]; decide), if_neg (by simp), t12, sh_bc_some, decide_eq_false (show ¬ K p = Int32.ofNat (4 + 3) by rw [hK]; decide), if_neg (by simp), if_pos k1, if_neg (fun q => absurd ((hb.pm.wq.tk pN (Or.inr (Or.inr (by decide)))).mp q) (by rw [hK]; decide)), if_pos k1, if_pos ((hb.pm.wq.tk pN (Or.inr (Or.inr (by decide)))).mpr hK), e1, sh_bn_some]
    rfl
  have hstart : sh_Li N K P V 0 0 d 0 g w (fun _ => 0) (fun _ => c) (fun _ => p + 1) (fun _ => g + 1) _ n1 _ n1 (p + 1) c (g + 1) := sh_Li.start hb1.pc e2 (by omega) (by omega) (by omega) e6
  have hloop := sh_plist (ar := 0) (sg := 93) (u := u) (v := v) (L := fun k m => sf_67_23 (sq_44 u) (Int32.ofNat d) (Int32.ofNat p) (Int32.ofNat k) true (Int32.ofNat k) m) (E := fun n m => sf_67_87 (sq_44 u) (Int32.ofNat p) (Int32.ofNat n) m) hT hX hd hw hu hv (by omega) (Or.inl rfl)
    (fun k m mf hk hq => by
      show sf_67_23 _ _ _ _ _ _ _ = _
      unfold sf_67_23
      refine sh_wend ?_
      show sf_67_23s (sq_44 u) (Int32.ofNat d) (Int32.ofNat p) (Int32.ofNat k) true (Int32.ofNat k) m = _
      unfold sf_67_23s
      rw [if_pos (sh_k4 hk), if_pos rfl, sh_nI1, hq]
      rfl)
    (fun k m m1 p0 c0 p1 c1 hk h0 hq h1 _ => by
      refine ⟨m1, h1, fun b => sh_Cf.refl _ _ _, fun q => absurd q (by omega), fun h44 => ?_, fun h44 => ?_⟩
      · show sf_67_23 _ _ _ _ _ _ _ = sf_67_23 _ _ _ _ _ _ _
        unfold sf_67_23
        refine sh_wstep ?_
        show sf_67_23s (sq_44 u) (Int32.ofNat d) (Int32.ofNat p) (Int32.ofNat k) true (Int32.ofNat k) m = _
        unfold sf_67_23s
        rw [if_pos (sh_k4 hk), if_pos rfl, sh_nI1, hq]
        show sh_bc (sf_45 m1) _ = _
        rw [sh_45 h1, sh_bc_some, if_pos h44]
        unfold sf_67_60 sf_67_77
        rw [if_pos rfl, sh_nI1]
        rfl
      · show sf_67_23 _ _ _ _ _ _ _ = _
        rw [← sh_67E (d := Int32.ofNat d) (k := k + 1)]
        unfold sf_67_23
        refine sh_wstep ?_
        show sf_67_23s (sq_44 u) (Int32.ofNat d) (Int32.ofNat p) (Int32.ofNat k) true (Int32.ofNat k) m = _
        unfold sf_67_23s
        rw [if_pos (sh_k4 hk), if_pos rfl, sh_nI1, hq]
        show sh_bc (sf_45 m1) _ = _
        rw [sh_45 h1, sh_bc_some, if_neg h44]
        unfold sf_67_60 sf_67_77
        rw [if_neg (by simp), sp_at0, sh_nI1])
    N (p + 1) c (g + 1) 0 0 _ _ _ _ _ n1 (by omega) hstart rfl (by omega) rfl rfl rfl
  have mF2 : sh_Mf g mm n1 := (mF g).trans e3 (Nat.le_refl _)
  rw [ec, em]
  rcases hloop with ⟨z, mcf, mmf, z1, z2, z3, z4, z5⟩ | ⟨n, ht, r, b, s, a, mc2, mm2, pe, ce, ge, z1, z2, z3, hL, z4, z5, z6, z7, z8, z9, z10⟩
  · refine Or.inl ⟨z, mcf, mmf, z1, z2, ?_, z4.of (cF 0 0), z5.of mF2⟩
    rw [z3, sh_bn_some, if_neg (by simp)]
  · have peN := hL.pc.pN
    have lg := hL.lg
    have bk := hL.bk
    have ak := hL.ak
    have hup := hL.ls.up n (Nat.le_refl _)
    have cF3 : sh_Cf c w mc mc2 := (cF c w).trans (by have := hL.cf; rw [z6] at this; exact this) (Nat.le_refl _) (Nat.le_refl _)
    have mF3 : sh_Mf g mm mm2 := mF2.trans hL.mf (Nat.le_refl _)
    rw [show sf_67_23 (sq_44 u) (Int32.ofNat d) (Int32.ofNat p) (Int32.ofNat 0) true (Int32.ofNat 0) (mc.T, sh_u2 mc.I 39 4 (mc.I 39 4 + 1), mc.J, mc.s) = _ from z2, z3]
    by_cases h93 : K pe = 93
    · have hpe : pe < N := hT.lt peN (by rw [h93]; decide)
      obtain ⟨m4, i1, i3, i4⟩ := sh_48t hL.pc h93 hpe
      obtain ⟨m5, a1, a2, a3, a4, a5, a6⟩ := sh_56 (a := 27) (x := Int32.ofNat p) (y := Int32.ofNat n) i3 (by omega)
      obtain ⟨mA, mFA⟩ := sh_madv hL.pm hpe
      rw [if_pos h93]
      refine Or.inr ⟨m5, (mm2.T, sh_u2 mm2.I 66 21 (mm2.I 66 21 + 1), mm2.J, mm2.s), pe + 1, ce + 1, ge, g, ht + 1, ?_, by rw [sh_bn_some, if_pos rfl], sh_Ok.mk a2 mA ((cF3.trans (i4 c w) (Nat.le_refl _) (Nat.le_refl _)).trans (a3 w) (by omega) (Nat.le_refl _)) (mF3.trans (mFA g) (Nat.le_refl _)) (by omega) (by omega) (by omega) (by omega) ?_ ?_ ?_⟩
      · show sf_67_87 _ _ _ _ = _
        unfold sf_67_87
        rw [i1]
        show sh_bn (sf_56 27 _ _ m4) _ = _
        rw [a1]
        rfl
      · have go : ∀ x, 72 ≤ x → x ≤ 78 → x ≠ 74 → sh_u2 mm2.I 66 21 (mm2.I 66 21 + 1) x g = n1.I x g := by
          intro x h1 h2 h3
          rw [sh_u2_cell (by omega)]
          exact hL.ox x h1 h2 h3
        have hls : sp_Ls N K V (sh_u2 mm2.I 66 21 (mm2.I 66 21 + 1)) m5.I 0 ht d n r b s a := by
          refine hL.ls.mono (by omega) ?_ ?_
          · intro x h1 h2
            rw [sh_u2_cell (show (72 : Nat) ≠ 66 by omega), sh_u2_cell (show (73 : Nat) ≠ 66 by omega), sh_u2_cell (show (74 : Nat) ≠ 66 by omega), sh_u2_cell (show (75 : Nat) ≠ 66 by omega), sh_u2_cell (show (77 : Nat) ≠ 66 by omega), sh_u2_cell (show (78 : Nat) ≠ 66 by omega)]
            exact ⟨rfl, rfl, rfl, rfl, rfl, rfl⟩
          · intro y h1 h2
            have q1 := (a3 w).cd y (by omega)
            have q2 := (i4 ce w).cd y (by omega)
            exact ⟨q1.1.trans q2.1, q1.2.1.trans q2.2.1, q1.2.2.trans q2.2.2⟩
        unfold sp_R
        refine ⟨⟨by omega, by omega, hd, by omega, by omega⟩, p, ?_, by omega, by omega, Or.inr (Or.inr (Or.inr (Or.inr (Or.inl ⟨n, r, b, s, a, (fun k => a (k + 1)), z1, ?_, ?_, z6, ?_, ?_, ?_, ?_, z7, by omega, ?_⟩))))⟩
        · exact ((go 73 (by omega) (by omega) (by omega)).trans e5).trans hb.pm.at_
        · exact (go 72 (by omega) (by omega) (by omega)).trans e4
        · show sh_u2 mm2.I 66 21 (mm2.I 66 21 + 1) 74 g = _
          rw [sh_u2_cell (by omega)]
          exact hL.o1 (by omega)
        · rw [bk]; omega
        · rw [show ce + 1 - 1 = ce by omega]; exact a4
        · rw [show ce + 1 - 1 = ce by omega]; exact a5
        · rw [show ce + 1 - 1 = ce by omega]; exact a6
        · intro k hk
          obtain ⟨x2, x3, x4, x5, x9⟩ := hls k hk
          have j1 := hL.ls.up k (by omega)
          have j2 := hL.ls.up (k + 1) (by omega)
          have a0 := hL.a0
          exact ⟨⟨by omega, by show a (k + 1) ≤ ge; omega⟩, x2, by omega, x4, x9⟩
      · show sh_u2 mm2.I 66 21 (mm2.I 66 21 + 1) 78 g = _
        rw [sh_u2_cell (by omega)]
        exact ((hL.ox 78 (by omega) (by omega) (by omega)).trans e10).trans hb.pm.at_
      · show sh_u2 mm2.I 66 21 (mm2.I 66 21 + 1) 77 g = _
        rw [sh_u2_cell (by omega)]
        exact (hL.ox 77 (by omega) (by omega) (by omega)).trans e9
    · rw [if_neg h93]
      refine Or.inl ⟨pe, _, _, peN, ?_, by rw [sh_bn_some, if_neg (by simp)], hL.pc.bad.of cF3, hL.pm.bad.of mF3⟩
      show sf_67_87 _ _ _ _ = _
      unfold sf_67_87
      rw [sh_48f hL.pc h93]
      rfl
end
