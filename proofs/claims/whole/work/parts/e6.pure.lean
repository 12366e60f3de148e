/-! EVALUATION: X [ E ] -/
section
variable {N : Nat} {K : Nat → Int32} {P V : Nat → Nat} {A C : Nat → Nat → Int32} {p : Nat → Bool} {pf : Nat → Nat} {F c2 fm un e i j n len d bb sg dq : Nat} {gs : sh_gL} {u z q B M fr cl sp cw ifs cd kn inn tp li : Nat} {ac : Bool} {mc mm : sh_X} {Q : sh_Q279}
/-- the step at i of the code, in a state of the class -/
theorem se_c.at {n i c2 : Nat} {a w x : Int32} {m : sh_X} (h : se_c N K P V C gs u z q B fr cl sp cw ifs cd kn m) (hn : n < 1000000) (hat : m.I 41 13 = Int32.ofNat i) (c10 : C 28 10 = Int32.ofNat c2) (hi : i < c2) (c6 : c2 ≤ 6000) (ha : C 36 i = a) (hw : C 37 i = w) (hx : C 38 i = x) : se_At n i c2 a w x m :=
  se_At.mk hn hat (by rw [h.cc 28 (by omega) (by omega)]; exact c10) hi c6 (by rw [h.cc 36 (by omega) (by omega)]; exact ha) (by rw [h.cc 37 (by omega) (by omega)]; exact hw) (by rw [h.cc 38 (by omega) (by omega)]; exact hx)
theorem se_nxFr {u z q fr cl i : Nat} {m : sh_X} : se_F u z q fr cl m (se_nx i m) := se_F.wI (by omega) (by omega) (by omega) (by omega) (by omega) (by omega)
theorem se_idx {a b0 k1 t0 len1 len2 : Nat} (ih1 : se_OK N K P V A C p pf F c2 kn a i k1 d len1) (ih2 : se_OK N K P V A C p pf F c2 kn b0 (k1 + 1) (j - 2) (d + 1) len2) (h : se_P N K P V A C p pf F c2 fm un e i n len d bb sg dq gs u z q B M fr cl sp cw ifs cd kn inn tp li ac mc mm) (h72 : A 72 e = 8) (h73 : A 73 e = Int32.ofNat t0) (ht : t0 + 1 ≤ N) (h74 : A 74 e = Int32.ofNat a) (ha : a < 9000) (h75 : A 75 e = Int32.ofNat b0) (hb : b0 < 9000) (h78 : A 78 b0 = Int32.ofNat (t0 + 1)) (l1 : 1 ≤ len1) (hl : len1 + 1 + len2 ≤ len) (hd : d + 1 ≤ 40) (hk1 : k1 + 1 ≤ j - 2) (hj2 : j ≤ c2) (c28 : C 36 k1 = 28) (w28 : C 37 k1 = Int32.ofNat t0) (c29 : C 36 (j - 2) = 29) (w29 : C 37 (j - 2) = Int32.ofNat (t0 + 1)) (c30 : C 36 (j - 1) = 30) (w30 : C 37 (j - 1) = Int32.ofNat t0) :
    se_X N K P V A C p (sq_279 dq) fm un e j n len d bb gs u z q B fr cl sp cw ifs cd kn inn tp li ac mc mm := by
  have N4 := h.tx.N4
  have le := h.st.le
  have un4 := h.bd.un4
  have bb4 := h.bd.bb4
  obtain ⟨z1, q1, t1, n1⟩ := h.z1
  rcases se_fst ih1 h (Or.inl h72) h74 ha (by omega) with bad | ⟨e1, n2, mc2, mm2, u2, sp2, tp2, ka, ba, na, va, ta, a1, a2, st2, w2, Y1⟩
  · exact Or.inl bad
  have x1 := Y1.n5
  have bn := h.bd.n5
  have s3 := Y1.sp3
  -- NEED_ROW
  have at1 := Y1.hc.at (n := n2) (by omega) Y1.at_ h.c10 (by omega) h.c6 c28 w28 rfl
  have c1 := Y1.hc.nx (i := k1 + 1)
  have f1 : se_F u2 (z + 1) q fr cl mc2 (se_nx (k1 + 1) mc2) := se_nxFr
  have D1 : se_D p (se_nx (k1 + 1) mc2) (e1 ++ gs) u2 z ta ka ba na va := Y1.hD.keep (e := []) f1 (by omega) (Nat.le_refl _)
  have F1 := Y1.hF.trans f1 Y1.lu (by omega) (Nat.le_refl _) (Nat.le_refl _) (Nat.le_refl _)
  have zz : Int32.ofNat (z + 1) - 1 = Int32.ofNat z := se_um1
  have sl := (se_slot c1.cz (by omega : z < z + 1) (by omega)).1
  have Ra := Y1.hR
  have m73 : mm2.I 73 e = Int32.ofNat t0 := by rw [Y1.hm.aa 73 (by omega) (by omega)]; exact h73
  have o2 : sh_okb (Int32.ofNat un) 9000 = true := sh_okn' (by omega) (by omega)
  by_cases row : ka ≤ 2 ∧ 0 < na
  · obtain ⟨ka2, na0⟩ := row
    have hT1 : se_T p (se_nx (k1 + 1) mc2) (e1 ++ gs) u2 z ka ba na va := by
      rcases D1.lo with ⟨r, _, _⟩ | ⟨_, r⟩
      · omega
      · exact r
    have na32 := hT1.1.n2
    have s28 : sf_78_10 (Int32.ofNat n2) mc2 = sf_78_10 (Int32.ofNat (n2 + 1)) (se_nx (k1 + 1) mc2) := by
      rw [se_a28 at1]
      unfold sf_195
      rw [c1.cz, zz, sl, sh_bc_some, hT1.2.1, sh_123 hT1.1, if_pos (decide_eq_true na0)]
      rfl
    have J2 := h.hJ.keep (e := e1) F1 Y1.hG Y1.lu Y1.ltp
    have r43 : ¬ mm2.I 66 43 = 3 := by rw [Ra.1]; exact fun r => by have := (sh_kI ka2 (c := 3) (by omega)).mp r; omega
    have r45 : ¬ mm2.I 66 45 = 0 := by rw [Ra.2.2.1]; exact fun r => by have := (sh_nIeq (b := 0) (by omega) (by omega)).mp r; omega
    rcases se_snd (n := n2 + 1) ih2 h.tx c1 Y1.hm J2 se_nxA st2 w2 (h.bd.second (n2 := n2 + 1) (ex := 0) (by omega) Y1.g14 Y1.u5 Y1.t16 Y1.sp3 l1 hl (by omega) hd) h.lB h.c10 h.c6 (by have := h.ifb; have := Y1.lsp; omega) (Or.inr ⟨h72, r43, r45⟩) h75 hb with bad | ⟨e2, n3, mc3, mm3, u3, sp3, tp3, kb, b', nb, vb, tb, b1, b2, Y2⟩
    · left
      rw [a1, a2, s28]
      exact bad.of F1 Y1.hG.U
    rw [if_neg (by rw [h72]; decide)] at b2
    have x2 := Y2.n5
    have y1 := Y1.g14
    have y2 := Y2.g14
    have y3 := Y1.u5
    have y4 := Y2.u5
    have y5 := Y1.lsp
    have y6 := Y2.lsp
    have y7 := Y2.t16
    have y8 := Y1.ltp
    have y9 := Y2.ltp
    have y10 := Y1.lu
    have y11 := Y2.lu
    have bg := h.bd.g14
    have bu := h.bd.u5
    have s3' := Y2.sp3
    -- LOOK_INDEX
    have at2 := Y2.hc.at (n := n3) (by omega) Y2.at_ h.c10 (by omega) h.c6 c29 w29 rfl
    have j1 : j - 2 + 1 = j - 1 := by omega
    have jj : j - 1 + 1 = j := by omega
    have c3 := Y2.hc.nx (i := j - 2 + 1)
    have f3 : se_F u3 (z + 2) q fr cl mc3 (se_nx (j - 2 + 1) mc3) := se_nxFr
    have m1 := se_dnm (un := un) Y2.hm
    have R2 : se_R (se_dn un mm3) kb b' nb tp3 vb := Y2.hR.keep (se_dnF (by omega)) (se_dnF (by omega)) (se_dnF (by omega)) rfl rfl
    have D2 : se_D p (se_nx (j - 2 + 1) mc3) (e2 ++ (e1 ++ gs)) u3 (z + 1) tb kb b' nb vb := Y2.hD.keep (e := []) f3 (by omega) (Nat.le_refl _)
    have T1 : se_T p (se_nx (j - 2 + 1) mc3) (e2 ++ (e1 ++ gs)) u3 z ka ba na va := (hT1.keep (e := e2) Y2.hF (by omega) Y2.lu).keep (e := []) f3 (by omega) (Nat.le_refl _)
    have dn73 : (se_dn un mm3).I 73 e = Int32.ofNat t0 := by rw [m1.aa 73 (by omega) (by omega)]; exact h73
    have dn75 : (se_dn un mm3).I 75 e = Int32.ofNat b0 := by rw [m1.aa 75 (by omega) (by omega)]; exact h75
    have dn73b : (se_dn un mm3).I 73 b0 = Int32.ofNat tb := by rw [m1.aa 73 (by omega) (by omega)]; exact Y2.h73
    have dn78 : (se_dn un mm3).I 78 b0 = Int32.ofNat (t0 + 1) := by rw [m1.aa 78 (by omega) (by omega)]; exact h78
    have F13 : se_F u z q fr cl mc mc3 := F1.trans Y2.hF y10 (by omega) (Nat.le_refl _) (Nat.le_refl _) (Nat.le_refl _)
    have F14 : se_F u z q fr cl mc (se_nx (j - 2 + 1) mc3) := F13.trans f3 (by omega) (by omega) (Nat.le_refl _) (Nat.le_refl _) (Nat.le_refl _)
    have G13 : se_G tp q un li mm mm3 := Y1.hG.trans Y2.hG y8 (Nat.le_refl _) (Nat.le_refl _) (Nat.le_refl _)
    have G14 : se_G tp q un li mm (se_dn un mm3) := G13.trans se_dnG (Nat.le_refl _) (Nat.le_refl _) (Nat.le_refl _) (Nat.le_refl _)
    have cls : sf_78_10 (Int32.ofNat n) mc = se_go n3 (sf_196 (Int32.ofNat (t0 + 1)) (se_nx (j - 2 + 1) mc3)) := by rw [a1, s28, b1, se_a29 at2]
    obtain ⟨f, fe, ff, fm'⟩ := Ra.2.2.2.2 na0
    have t16 := Y1.t16
    have md : sf_309 (Int32.ofNat e) (mm2.I 66 43) (mm2.I 66 44) (mm2.I 66 45) (Int64.toInt32 (mm2.J 66 46)) (se_dn un mm3) = sh_bn (sf_310 (Int32.ofNat b0) (se_dn un mm3)) fun r1 m11 => if r1 = true then if (se_dn un mm3).I 66 43 = 3 then sf_309_49 (Int32.ofNat e) (Int32.ofNat ka) (Int32.ofNat ba) (Int32.ofNat na) (Int32.ofNat f) (Int32.ofNat ba) m11 else sf_309_49 (Int32.ofNat e) (Int32.ofNat ka) (Int32.ofNat ba) (Int32.ofNat na) (Int32.ofNat f) (Int32.ofNat na * (Int32.ofNat ba + m11.I 66 44)) m11 else some (false, m11) := by
      rw [Ra.1, Ra.2.1 (by omega), Ra.2.2.1, fe, se_c64 (by omega)]
      unfold sf_309
      by_cases q : (se_dn un mm3).I 66 43 = 3
      · rw [if_pos q]
        unfold sf_309_13
        rw [if_pos (sh_okn' le (by omega)), sh_nIc (by omega), dn75]
        simp only [if_pos q, if_true]
      · rw [if_neg q]
        unfold sf_309_13
        rw [if_pos (sh_okn' le (by omega)), sh_nIc (by omega), dn75]
        simp only [if_neg q, Bool.false_eq_true, if_false]
    rcases se_look (b0 := b0) (w := t0 + 1) N4 c3 (by omega) D2 m1.we R2 hb dn73b dn78 Y2.tN ht with bad | ⟨k1', nb0, k2'⟩
    · left
      obtain ⟨kk, tt, x, y, r1, r2, r3, r4, r5⟩ := bad
      exact ⟨kk, tt, x, y, r1, by rw [cls, r2]; rfl, F14.thenW r3, by rw [a2, b2, md, r4]; rfl, G14.U.trans r5⟩
    · subst nb0
      -- INDEX
      have at3 := c3.at (n := n3 + 1) (by omega) (by rw [se_nxA, j1]) h.c10 (by omega) h.c6 c30 w30 rfl
      have c4 := c3.nx (i := j - 1 + 1)
      have f4 : se_F u3 (z + 2) q fr cl (se_nx (j - 2 + 1) mc3) (se_nx (j - 1 + 1) (se_nx (j - 2 + 1) mc3)) := se_nxFr
      have D2' := D2.keep (e := []) f4 (by omega) (Nat.le_refl _)
      have T1' := T1.keep (e := []) f4 (by omega) (Nat.le_refl _)
      have F15 := F14.trans f4 (by omega) (by omega) (Nat.le_refl _) (Nat.le_refl _) (Nat.le_refl _)
      have cl2 : sf_78_10 (Int32.ofNat n) mc = se_go (n3 + 1) (sf_197 (Int32.ofNat t0) (se_nx (j - 1 + 1) (se_nx (j - 2 + 1) mc3))) := by
        rw [cls, k1']
        show sf_78_10 (Int32.ofNat (n3 + 1)) (se_nx (j - 2 + 1) mc3) = _
        rw [se_a30 at3]
      -- the model's memory behind the look
      obtain ⟨m5, r5, md5, p5, q5⟩ : ∃ m5, sh_Rr (se_dn un mm3) m5 ∧ sf_309 (Int32.ofNat e) (mm2.I 66 43) (mm2.I 66 44) (mm2.I 66 45) (Int64.toInt32 (mm2.J 66 46)) (se_dn un mm3) = sf_309_49 (Int32.ofNat e) (Int32.ofNat ka) (Int32.ofNat ba) (Int32.ofNat na) (Int32.ofNat f) (if kb = 3 then Int32.ofNat ba else Int32.ofNat na * (Int32.ofNat ba + m5.I 66 44)) m5 ∧ (¬ kb = 3 → m5.I 66 44 = Int32.ofNat b') ∧ m5.I 66 42 = Int32.ofNat sp3 ∧ m5.J = (se_dn un mm3).J := by
        rcases k2' with ⟨rfl, k4, k5⟩ | ⟨k4, k5⟩
        · refine ⟨_, (sh_Rr.wi (m := se_dn un mm3) (f := 43) (x := 2) (by omega)).trans (sh_Rr.wi (f := 44) (x := 32) (by omega)), ?_, fun r => absurd rfl r, by rw [se_In (by omega), se_In (by omega)]; exact m1.msp, rfl⟩
          rw [md, k5, sh_bn_some, if_pos rfl, if_pos (by rw [R2.1]; rfl), if_pos rfl]
        · refine ⟨se_dn un mm3, sh_Rr.refl _, ?_, fun r => R2.2.1 r, m1.msp, rfl⟩
          rw [md, k5, sh_bn_some, if_pos rfl, if_neg (by rw [R2.1]; exact fun r => by have := (sh_nIeq (a := kb) (b := 3) (by omega) (by omega)).mp r; omega), if_neg (by omega)]
      have bo := se_elem (e := e) (t0 := t0) (t2 := tb) (f := f) (tp := tp3) N4 c4 (by omega) T1' na0 D2' (by
        rcases k2' with ⟨r1, r2, _⟩ | ⟨r1, _⟩
        · exact Or.inl ⟨r1, r2⟩
        · exact Or.inr r1) Y2.sp3 (by omega) (by omega) (r5.we m1.we) q5.1 p5 (by rw [q5.2]; exact R2.2.2.2.1 rfl) (by omega) (by omega) (fun x hx => by
          rw [q5.2]
          exact (Y2.hG.me (f + x) (by omega)).trans (fm' x hx)) le (by rw [r5.I 73 (by omega)]; exact dn73) (by omega)
      rcases bo with bad | ⟨e4, u4, mc4, mm4, k3, b3, v3, sp4, g1, g2, g3, g4, g5, g6, g7, g8, g9, g10, g11, g12, g13, g14⟩
      · left
        obtain ⟨kk, tt, x, y, r1, r2, r3, r4, r6⟩ := bad
        refine ⟨kk, tt, x, y, r1, by rw [cl2, r2]; rfl, F15.thenW r3, by rw [a2, b2, md5, r4]; rfl, (G14.U.trans r5.U).trans r6⟩
      · have e' : e4 ++ (e2 ++ (e1 ++ gs)) = (e4 ++ e2 ++ e1) ++ gs := by rw [List.append_assoc, List.append_assoc]
        rw [e'] at g3 g5 g13
        have r57 := r5.trans g7
        refine se_Y.X (e' := e4 ++ e2 ++ e1) (n2 := n3 + 1 + 1) (mc2 := mc4) (mm2 := mm4) (u2 := u4) (sp2 := sp4) (tp2 := tp3) (k := k3) (b := b3) (nn := 0) (v := v3) (t := t0) ?_ (by rw [cl2, g1]; rfl) (by rw [a2, b2, md5, g2]; rfl) ((r57.F 73 (by omega) (by omega) (by omega) (by omega)).trans se_dn7)
        exact se_Y.mk (by rw [g6, se_nxA, jj]) g3 (se_mR m1 r57 g9) (F15.trans g4 (by omega) (Nat.le_refl _) (Nat.le_refl _) (Nat.le_refl _) (Nat.le_refl _)) (G14.trans (se_G.R r57) (Nat.le_refl _) (Nat.le_refl _) (Nat.le_refl _) (Nat.le_refl _)) (Or.inr g5) h73 (by omega) g8 (by omega) (by omega) g12 (by omega) (by omega) (by omega) (by omega) (by omega) (fun q => absurd q (by omega))
  · -- no row
    left
    refine ⟨4, t0, se_nx (k1 + 1) mc2, mm2, by omega, ?_, F1.W c1.rs, ?_, Y1.hG.U⟩
    · rw [a1, se_a28 at1]
      unfold sf_195
      rw [c1.cz, zz, sl, sh_bc_some]
      have nr : sf_123 ((se_nx (k1 + 1) mc2).I 49 z) = false := by
        rcases D1.lo with ⟨_, _, r⟩ | ⟨r1, r⟩
        · rw [r.1]; decide +kernel
        · rw [r.2.1, sh_123 r.1, decide_eq_false (by omega)]
      rw [nr, if_neg (by decide), se_fail N4 c1 (by omega)]
      rfl
    · rw [a2, se_294b st2 (by rw [Y1.hm.aa 72 (by omega) (by omega)]; exact Or.inl h72)]
      have e71 : sf_302_71 (Int32.ofNat e) mm2 = some (false, sh_mft 4 (Int32.ofNat (P t0)) mm2) := by
        unfold sf_302_71
        rw [if_pos (sh_okn' le (by omega)), sh_nIc (by omega), m73, if_pos (sh_okn' (by omega) (by omega)), sh_nIc (by omega), Y1.hm.we.at (by omega), sh_252, sh_bn_some]
      have e302 : sf_302 (Int32.ofNat e) mm2 = some (false, sh_mft 4 (Int32.ofNat (P t0)) mm2) := by
        unfold sf_302
        rw [st2.h73, se_um1, if_pos o2, sh_nIc (by omega), w2, if_neg (by decide), if_pos o2, if_pos rfl, if_pos (sh_okn' le (by omega)), sh_nIc (by omega), Y1.hm.aa 72 (by omega) (by omega), h72, if_pos rfl, e71]
        by_cases q : mm2.I 66 43 = 3
        · rw [if_pos q]
        · rw [if_neg q, if_pos]
          rw [Ra.2.2.1]
          have : na = 0 := by
            rcases D1.lo with ⟨_, r, _⟩ | ⟨r1, r⟩
            · exact r
            · omega
          rw [this]
          rfl
      rw [e302]
      rfl
end
