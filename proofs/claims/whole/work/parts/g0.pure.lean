/-! EVALUATION: calls: RETURN whole -/
section
variable {N : Nat} {K : Nat → Int32} {P V : Nat → Nat} {A C : Nat → Nat → Int32} {p : Nat → Bool} {F c2 un n : Nat} {gs : sh_gL} {u z q B B0 fr cl sp cw ifs cd inn tp li : Nat} {ac : Bool} {mc mm : sh_X} {f cd0 kn0 j0 jr pv vp t k b nn tp0 : Nat} {v : Nat → Int64} {Q : sh_Q279}
theorem se_ret (hT : sh_Txt N K P V) (hH : sh_Hds N K V A C F) (hf : f < F) (hF : F < 256) (hC12 : C 28 12 = Int32.ofNat F) (hc : se_c N K P V C gs u (z + 1) q B (fr + 4) cl sp cw ifs cd f mc) (hB : B ≤ q) (hq : q ≤ 2000) (hz : z < 2000) (hfr : fr ≤ 900) (a0 : mc.I 42 fr = Int32.ofNat j0) (a1 : mc.I 42 (fr + 1) = Int32.ofNat B0) (a2 : mc.I 42 (fr + 2) = Int32.ofNat cd0) (a3 : mc.I 42 (fr + 3) = Int32.ofNat kn0)
    (hat : mc.I 41 13 = Int32.ofNat jr) (c18 : C 36 jr = 18) (w18 : C 37 jr = Int32.ofNat pv) (hjr : jr < c2) (c10 : C 28 10 = Int32.ofNat c2) (c6 : c2 ≤ 6000) (hn : n < 999999)
    (hm : se_m N K P V A q B sp ifs cd f (inn + 1) tp li ac mm) (hD : se_D p mc gs u z t k b nn v) (h87 : A 87 f = Int32.ofNat vp) (hvp : vp < 9000) (h73 : A 73 vp = Int32.ofNat t) (ht : t ≤ N) (h78 : A 78 vp = Int32.ofNat pv) (hpv : pv ≤ N) (hR : se_R mm k b nn tp v) (hL : 0 < nn → ∃ a, mm.J 66 46 = Int64.ofNat a ∧ tp0 ≤ a ∧ a < 1000000) (htp : tp ≤ 69000) (htp0 : tp0 + 32 ≤ 70000) (hsp : sp ≤ 3000) (hu : 4 * u + 5 * (3000 - sp) ≤ 32000) :
    se_bad N P mc mm (sf_78_10 (Int32.ofNat n) mc) (sf_315_484 Q (Int32.ofNat f) (Int32.ofNat tp0) (Int32.ofNat B0) (Int32.ofNat kn0) (Int32.ofNat cd0) true mm) ∨
    ∃ e' u2 sp2 mc2 mm2 k2 b2 n2, sf_78_10 (Int32.ofNat n) mc = sf_78_10 (Int32.ofNat (n + 1)) mc2 ∧ mc2.I 41 13 = Int32.ofNat j0 ∧ se_c N K P V C (e' ++ gs) u2 (z + 1) B B0 fr cl sp2 cw ifs cd0 kn0 mc2 ∧ se_F u z q fr cl mc mc2 ∧ sf_315_484 Q (Int32.ofNat f) (Int32.ofNat tp0) (Int32.ofNat B0) (Int32.ofNat kn0) (Int32.ofNat cd0) true mm = some (true, mm2) ∧ se_m N K P V A B B0 sp2 ifs cd0 kn0 inn (tp0 + n2) li ac mm2 ∧ se_G0 tp0 q un li mm mm2 ∧ mm2.I 66 73 = mm.I 66 73 ∧
      se_T p mc2 (e' ++ gs) u2 z k2 b2 n2 v ∧ se_R mm2 k2 b2 n2 (tp0 + n2) v ∧ (0 < n2 → mm2.J 66 46 = Int64.ofNat tp0) ∧ u ≤ u2 ∧ sp ≤ sp2 ∧ sp2 ≤ 3000 ∧ (e' ++ gs).length + 14 * (3000 - sp2) ≤ gs.length + 14 * (3000 - sp) ∧ 4 * u2 + 5 * (3000 - sp2) ≤ 4 * u + 5 * (3000 - sp) := by
  have N4 := hT.N4
  obtain ⟨nf, nt, rt, tt, h0, _, hp1, hp2, _⟩ := hH f hf
  obtain ⟨k2, b2, n2, x, y1, y2, y3, y4, y5⟩ := se_tyw hT h0.ty hp2 h0.rN
  have n32 := y1.n2
  have at1 := hc.at (n := n) (by omega) hat c10 hjr c6 c18 w18 rfl
  have c1 := hc.nx (i := jr + 1)
  have f1 : se_F u (z + 1) q (fr + 4) cl mc (se_nx (jr + 1) mc) := se_nxFr
  have D1 := hD.keep (e := []) f1 (by omega) (Nat.le_refl _)
  have cls : sf_78_10 (Int32.ofNat n) mc = se_go n (sh_bt (sf_125 (Int32.ofNat (sh_te k2 b2 n2)) (Int32.ofNat pv) (se_nx (jr + 1) mc)) (fun m => (none, m)) fun _ m12 => sf_161_31 m12) := by
    rw [se_a18 at1]
    unfold sf_161 sf_156
    rw [c1.ckn, if_neg (sh_nI0 (by omega)), c1.cc 28 (by omega) (by omega), hC12, if_pos ((sh_nIlt (by omega) (by omega)).mpr hf), sh_bc_some, if_pos rfl, if_pos (sh_okn' (by omega) (by omega)), sh_nIc (by omega), c1.cc 32 (by omega) (by omega), hp1, y2]
  have mdl : sf_315_484 Q (Int32.ofNat f) (Int32.ofNat tp0) (Int32.ofNat B0) (Int32.ofNat kn0) (Int32.ofNat cd0) true mm = sh_bn (sf_317 (Int32.ofNat vp) (Int32.ofNat k2) (Int32.ofNat b2) (Int32.ofNat n2) mm) fun r3 m13 => if r3 = true then sf_315_586 Q (Int32.ofNat tp0) (Int64.toInt32 (m13.J 66 46)) 0 (m13.T, sh_u2 (sh_u2 (sh_u2 (sh_u2 (sh_u2 m13.I 66 58 ((m13.I 66 58) - 1)) 66 53 (m13.I 66 54)) 66 54 (Int32.ofNat B0)) 66 55 (Int32.ofNat kn0)) 66 59 (Int32.ofNat cd0), m13.J, m13.s) else some (false, m13) := by
    unfold sf_315_484
    have o6 : sh_okb (Int32.ofNat f) 600 = true := sh_okn' (by omega) (by omega)
    rw [if_pos o6, sh_nIc (by omega), hm.aa 84 (by omega) (by omega), (y5 mm hm.we).1, sh_bc_some, if_pos rfl, if_pos o6, if_pos o6, hm.aa 85 (by omega) (by omega), (y5 mm hm.we).2, sh_bc_some, hm.aa 87 (by omega) (by omega), h87, y4, y3]
  have hm73 : mm.I 73 vp = Int32.ofNat t := (congrFun (hm.aa 73 (by omega) (by omega)) vp).trans h73
  rcases se_dem (e := vp) (w := pv) N4 c1 (by omega) D1 ht hsp (by omega) hm.we hm.msp hR hvp hm73 ((congrFun (hm.aa 78 (by omega) (by omega)) vp).trans h78) hpv y1 with bad | ⟨mc3, mm3, d1, d2, e3, u3, sp3, Z1, Z2, Z3, Z4, Z5, Z6, Z7, Z8, Z9, Z10, Z11, Z12⟩
  · left
    obtain ⟨kk, tt', x', y', q1, q2, q3, q4, q5⟩ := bad
    exact ⟨kk, tt', x', y', q1, by rw [cls, q2]; rfl, f1.thenW q3, by rw [mdl, q4]; rfl, q5⟩
  · right
    have same : 0 < n2 → mm3 = mm := by
      intro hn2
      rcases D1.lo with ⟨rfl, rfl, hLo⟩ | ⟨hk, hTy⟩
      · exfalso
        have e17 : sf_317 (Int32.ofNat vp) (Int32.ofNat k2) (Int32.ofNat b2) (Int32.ofNat n2) mm = sh_bn (sf_299 (Int32.ofNat vp) (Int32.ofNat k2) (Int32.ofNat b2) (Int32.ofNat n2) mm) fun r1 m11 => some (r1, m11) := by
          unfold sf_317
          rw [hR.1, if_pos (by decide)]
        have R3 : se_R mm 3 0 0 tp v := ⟨hR.1, fun q => absurd rfl q, hR.2.2.1, hR.2.2.2.1, hR.2.2.2.2⟩
        rcases se_setZ (p := p) N4 c1 (by omega) hLo ht y1 hsp (by omega) hm.we hm.msp R3 hvp hm73 with ⟨kk, tt', x', y', q1, q2, q3, q4, q5⟩ | ⟨n0, _⟩
        · rw [e17, q4] at d2
          cases d2
        · omega
      · exact se_317k d2 (by rw [hR.1]; exact fun r => by have := (sh_kI hk (c := 3) (by omega)).mp r; omega)
    have F2 : se_F u (z + 1) q (fr + 4) cl mc mc3 → True := fun _ => trivial
    have F3 : se_F u z q (fr + 4) cl mc mc3 := (f1.less (u := u) (z := z) (q := q) (fr := fr + 4) (cl := cl) (Nat.le_refl _) (by omega) (Nat.le_refl _) (Nat.le_refl _) (Nat.le_refl _)).trans Z2 (Nat.le_refl _) (Nat.le_refl _) (Nat.le_refl _) (Nat.le_refl _) (Nat.le_refl _)
    obtain ⟨mc4, g1, g2, g3, g4⟩ := se_back Z1 hB hq (by omega) ((F3.fr_ fr (by omega)).trans a0) ((F3.fr_ (fr + 1) (by omega)).trans a1) ((F3.fr_ (fr + 2) (by omega)).trans a2) ((F3.fr_ (fr + 3) (by omega)).trans a3)
    have r54 : mm3.I 66 54 = Int32.ofNat B := (Z4.F 54 (by omega) (by omega) (by omega) (by omega)).trans hm.mB
    have r58 : mm3.I 66 58 - 1 = Int32.ofNat inn := by rw [Z4.F 58 (by omega) (by omega) (by omega) (by omega), hm.min_]; exact se_um1
    -- the model's memory with the caller's registers
    obtain ⟨m5, hm5⟩ : ∃ m5 : sh_X, (mm3.T, sh_u2 (sh_u2 (sh_u2 (sh_u2 (sh_u2 mm3.I 66 58 (Int32.ofNat inn)) 66 53 (Int32.ofNat B)) 66 54 (Int32.ofNat B0)) 66 55 (Int32.ofNat kn0)) 66 59 (Int32.ofNat cd0), mm3.J, mm3.s) = m5 := ⟨_, rfl⟩
    have j5 : m5.J = mm3.J := by rw [← hm5]
    have k5 : ∀ y, y ≠ 66 → m5.I y = mm3.I y := fun y hy => by rw [← hm5, se_Ic hy, sh_u2_cell hy, sh_u2_cell hy, sh_u2_cell hy, sh_u2_cell hy]
    have k66 : ∀ y, y ≠ 58 → y ≠ 53 → y ≠ 54 → y ≠ 55 → y ≠ 59 → m5.I 66 y = mm3.I 66 y := fun y h1 h2 h3 h4 h5 => by rw [← hm5, se_In (by omega), sh_u2_idx h4, sh_u2_idx h3, sh_u2_idx h2, sh_u2_idx h1]
    have v58 : m5.I 66 58 = Int32.ofNat inn := by rw [← hm5, se_In (by omega), sh_u2_idx (by omega), sh_u2_idx (by omega), sh_u2_idx (by omega), sh_u2_same]
    have v53 : m5.I 66 53 = Int32.ofNat B := by rw [← hm5, se_In (by omega), sh_u2_idx (by omega), sh_u2_idx (by omega), sh_u2_same]
    have v54 : m5.I 66 54 = Int32.ofNat B0 := by rw [← hm5, se_In (by omega), sh_u2_idx (by omega), sh_u2_same]
    have v55 : m5.I 66 55 = Int32.ofNat kn0 := by rw [← hm5, se_In (by omega), sh_u2_same]
    have v59 : m5.I 66 59 = Int32.ofNat cd0 := by rw [← hm5, se_Is]
    have G5 : ∀ {tq qq uu ll : Nat}, se_G0 tq qq uu ll mm3 m5 := fun {tq qq uu ll} => by
      rw [← hm5]
      exact ((((se_G0.wF (f := 58) (x := Int32.ofNat inn) (by omega)).trans (se_G0.wF (f := 53) (x := Int32.ofNat B) (by omega)) (Nat.le_refl _) (Nat.le_refl _) (Nat.le_refl _) (Nat.le_refl _)).trans (se_G0.wF (f := 54) (x := Int32.ofNat B0) (by omega)) (Nat.le_refl _) (Nat.le_refl _) (Nat.le_refl _) (Nat.le_refl _)).trans (se_G0.wF (f := 55) (x := Int32.ofNat kn0) (by omega)) (Nat.le_refl _) (Nat.le_refl _) (Nat.le_refl _) (Nat.le_refl _)).trans (se_G0.wF (f := 59) (x := Int32.ofNat cd0) (by omega)) (Nat.le_refl _) (Nat.le_refl _) (Nat.le_refl _) (Nat.le_refl _)
    have md2 : sf_315_484 Q (Int32.ofNat f) (Int32.ofNat tp0) (Int32.ofNat B0) (Int32.ofNat kn0) (Int32.ofNat cd0) true mm = sf_315_586 Q (Int32.ofNat tp0) (Int64.toInt32 (m5.J 66 46)) 0 m5 := by
      rw [mdl, d2, sh_bn_some, if_pos rfl, r54, r58, hm5, j5]
    have i45 : m5.I 66 45 = Int32.ofNat n2 := (k66 45 (by omega) (by omega) (by omega) (by omega) (by omega)).trans Z5.2.2.1
    obtain ⟨a, ha⟩ : ∃ a, 0 < n2 → m5.J 66 46 = Int64.ofNat a ∧ tp0 ≤ a ∧ a + n2 ≤ 70000 ∧ ∀ i, i < n2 → m5.J 92 (a + i) = v i := by
      by_cases hn2 : 0 < n2
      · obtain ⟨a, z1, z2, z3⟩ := Z5.2.2.2.2 hn2
        have nn0 : 0 < nn := by
          have s := same hn2
          have e1 := Z5.2.2.1
          rw [s, hR.2.2.1] at e1
          have nn32 : nn ≤ 32 := by
            rcases D1.lo with ⟨_, r, _⟩ | ⟨_, r⟩
            · omega
            · exact r.1.n2
          have := (sh_nIeq (by omega) (by omega)).mp e1
          omega
        obtain ⟨a', w1, w2, w3⟩ := hL nn0
        have ea : a' = a := by
          rw [same hn2, w1] at z1
          have := congrArg Int64.toInt z1
          rw [se_i64 (by omega), se_i64 (by omega)] at this
          omega
        subst ea
        exact ⟨a', fun _ => ⟨by rw [j5]; exact z1, w2, by omega, fun i hi => by rw [j5]; exact z3 i hi⟩⟩
      · exact ⟨0, fun q => absurd q hn2⟩
    obtain ⟨J, s1, s2, s3, s4, s5⟩ := se_586 (Q := Q) (a := a) (tp0 := tp0) i45 n32 (fun q => ⟨(ha q).1, (ha q).2.1, (ha q).2.2.1⟩) htp0
    have kk : ∀ y, y ≠ 41 → sh_X.I (m5.T, sh_u2 m5.I 66 41 (Int32.ofNat (tp0 + n2)), J, m5.s) 66 y = m5.I 66 y := fun y hy => se_In (by omega)
    have kc : ∀ y, y ≠ 66 → sh_X.I (m5.T, sh_u2 m5.I 66 41 (Int32.ofNat (tp0 + n2)), J, m5.s) y = m5.I y := fun y hy => se_Ic hy
    have G6 : se_G0 tp0 q un li mm (m5.T, sh_u2 m5.I 66 41 (Int32.ofNat (tp0 + n2)), J, m5.s) := by
      have g5 : se_G0 tp0 q un li mm m5 := (se_G.R Z4).G0.trans G5 (Nat.le_refl _) (Nat.le_refl _) (Nat.le_refl _) (Nat.le_refl _)
      refine g5.trans (tp2 := tp0) (q2 := q) (un2 := un) (li2 := li) ?_ (Nat.le_refl _) (Nat.le_refl _) (Nat.le_refl _) (Nat.le_refl _)
      exact se_G0.mk rfl rfl (fun y h1 _ => kc y h1) (fun y h1 h2 _ _ _ => s2 y h1 h2) (fun y hy => kk y (by omega)) s3 (fun j _ => by rw [kc 93 (by omega), kc 94 (by omega), kc 95 (by omega), kc 96 (by omega), kc 97 (by omega)]; exact ⟨rfl, rfl, rfl, rfl, rfl, by show J 98 j = _; rw [s2 98 (by omega) (by omega)]⟩) (fun j _ => by rw [kc 105 (by omega), kc 106 (by omega), kc 107 (by omega), kc 108 (by omega), kc 109 (by omega), kc 110 (by omega)]; exact ⟨rfl, rfl, rfl, rfl, rfl, rfl, by show J 111 j = _; rw [s2 111 (by omega) (by omega)]⟩) (fun j _ => by rw [kc 112 (by omega), kc 113 (by omega), kc 114 (by omega), kc 116 (by omega)]; exact ⟨rfl, rfl, rfl, rfl, by show J 115 j = _; rw [s2 115 (by omega) (by omega)]⟩)
    have old : ∀ y, (y = 56 ∨ y = 57 ∨ y = 73 ∨ y = 79) → m5.I 66 y = mm.I 66 y := fun y hy => (k66 y (by omega) (by omega) (by omega) (by omega) (by omega)).trans (Z4.F y (by omega) (by omega) (by omega) (by omega))
    refine ⟨e3, u3, sp3, mc4, _, k2, b2, n2, by rw [cls, d1]; show se_go n (sf_161_31 mc3) = _; rw [g1]; rfl, g4, g2, (F3.less (u := u) (z := z) (q := q) (fr := fr) (cl := cl) (Nat.le_refl _) (Nat.le_refl _) (Nat.le_refl _) (by omega) (Nat.le_refl _)).trans g3 (Nat.le_refl _) (Nat.le_refl _) (Nat.le_refl _) (Nat.le_refl _) (Nat.le_refl _), md2.trans s1, ?_, G6, (kk 73 (by omega)).trans (old 73 (by omega)), Z3.keep (e := []) (z := z + 1) (q := 0) (fr := 0) (cl := 0) g3 (by omega) (Nat.le_refl _), ?_, fun q => (s5 q).1, Z8, Z9, Z10, Z11, Z12⟩
    · have w0 := Z4.we hm.we
      exact se_m.mk (w0.same (by rw [kc 71 (by omega), k5 71 (by omega)]) (by rw [kc 68 (by omega), k5 68 (by omega)]) (by rw [kc 69 (by omega), k5 69 (by omega)]) (by rw [kc 70 (by omega), k5 70 (by omega)])) (fun y h1 h2 => by rw [kc y (by omega), k5 y (by omega), Z4.I y (by omega)]; exact hm.aa y h1 h2) se_Is ((kk 42 (by omega)).trans ((k66 42 (by omega) (by omega) (by omega) (by omega) (by omega)).trans Z6)) ((kk 53 (by omega)).trans v53) ((kk 54 (by omega)).trans v54) ((kk 55 (by omega)).trans v55) ((kk 56 (by omega)).trans ((old 56 (by omega)).trans hm.mif)) ((kk 57 (by omega)).trans ((old 57 (by omega)).trans hm.mac)) ((kk 58 (by omega)).trans v58) ((kk 59 (by omega)).trans v59) ((kk 79 (by omega)).trans ((old 79 (by omega)).trans hm.mli)) hm.ia
    · refine ⟨((kk 43 (by omega)).trans (k66 43 (by omega) (by omega) (by omega) (by omega) (by omega))).trans Z5.1, fun w => ((kk 44 (by omega)).trans (k66 44 (by omega) (by omega) (by omega) (by omega) (by omega))).trans (Z5.2.1 w), (kk 45 (by omega)).trans i45, fun w => ?_, fun w => ⟨tp0, (s5 w).1, Nat.le_refl _, fun i hi => ((s5 w).2 i hi).trans ((ha w).2.2.2 i hi)⟩⟩
      show J 66 46 = _
      rw [s4 w, j5]
      exact Z5.2.2.2.1 w
end
