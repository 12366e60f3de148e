/-! EVALUATION: statements: an expression in one; its price; let -/
section
variable {N : Nat} {K : Nat → Int32} {P V : Nat → Nat} {A C : Nat → Nat → Int32} {p : Nat → Bool} {pf : Nat → Nat} {F c2 un e i j n len d bb sg dq : Nat} {gs : sh_gL} {u z q B M fr cl sp cw ifs cd kn inn tp li : Nat} {ac : Bool} {mc mm : sh_X}
/-- an expression of a statement -/
theorem se_sev {a j1 len1 : Nat} (ok : se_OK N K P V A C p pf F c2 kn a i j1 d len1) (tx : sh_Txt N K P V) (hc : se_c N K P V C gs u z q B fr cl sp cw ifs cd kn mc) (hm : se_m N K P V A q B sp ifs cd kn inn tp li ac mm) (hJ : se_J N K V p gs u q B M tp cw ac mc mm) (hat : mc.I 41 13 = Int32.ofNat i) (w73 : mm.I 66 73 = Int32.ofNat un) (bd : se_Bd P pf F n gs.length u z q fr cl sp cd kn tp li un dq d len1 bb sg) (lB : B ≤ q) (c10 : C 28 10 = Int32.ofNat c2) (c6 : c2 ≤ 6000) (ifb : ifs ≤ bb ∧ inn ≤ sp) (ha : a < 9000) :
    se_bad N P mc mm (sf_78_10 (Int32.ofNat n) mc) (sf_294 (sq_279 dq) (Int32.ofNat a) mm) ∨
    ∃ e' n2 mc2 mm2 u2 sp2 tp2 k b nn v t, sf_78_10 (Int32.ofNat n) mc = sf_78_10 (Int32.ofNat n2) mc2 ∧ sf_294 (sq_279 dq) (Int32.ofNat a) mm = some (true, mm2) ∧ mm2.I 66 73 = Int32.ofNat un ∧ se_Y N K P V A C p un a j1 n len1 d bb gs u z q B fr cl sp cw ifs cd kn inn tp li ac mc mm e' n2 mc2 mm2 u2 sp2 tp2 k b nn v t := by
  have un4 := bd.un4
  obtain ⟨m1, p1, p2, p3, p4⟩ := se_psh0 (a := a) w73 ha (by omega)
  have P1 : se_P N K P V A C p pf F c2 un un a i n len1 d bb sg dq gs u z q B M fr cl sp cw ifs cd kn inn tp li ac mc m1 :=
    se_P.mk tx hc (p2.m hm) (hJ.keep (e := []) (se_F.refl (u := u) (z := z) (fr := fr) (cl := cl) mc) (p2.G (li := li)) (Nat.le_refl _) (Nat.le_refl _)) hat p3 p4 bd lB c10 c6 ifb
  have ev : sf_294 (sq_279 dq) (Int32.ofNat a) mm = sf_294_10 (sq_279 dq) (Int32.ofNat un) m1 := by
    unfold sf_294
    rw [p1, sh_bn_some, w73]
  rw [ev]
  rcases (ok _ _ _ _ _ _ _ _ _ _ _ _ _ _ _ _ _ _ _ _ _ _ _ _ P1).out with bad | ⟨e', n2, mc2, mm2, u2, sp2, tp2, k, b, nn, v, t, a1, a2, a3, Y⟩
  · exact Or.inl (bad.of (se_F.refl (u := 0) (z := 0) (q := 0) (fr := 0) (cl := 0) mc) (p2.G (tp := 0) (q := 0) (li := 0)).U)
  · right
    rw [se_294e a3] at a2
    exact ⟨e', n2, mc2, mm2, u2, sp2, tp2, k, b, nn, v, t, a1, a2, a3, se_Y.mk Y.at_ Y.hc Y.hm Y.hF ((p2.G (tp := tp) (q := q) (li := li)).trans Y.hG (Nat.le_refl _) (Nat.le_refl _) (Nat.le_refl _) (Nat.le_refl _)) Y.hD Y.h73 Y.tN Y.hR Y.lu Y.lsp Y.sp3 Y.ltp Y.t16 Y.n5 Y.g14 Y.u5 Y.hL⟩
/-- the price of a statement -/
theorem se_s0 {t : Nat} (h : se_Ps N K P V A C p pf F c2 un i n len d bb sg dq gs u z q B M fr cl sp cw ifs cd kn inn tp li ac mc mm) (hi : i < c2) (c0 : C 36 i = 0) (w0 : C 37 i = Int32.ofNat t) (ht : t ≤ N) (he : e < 9000) (h73 : A 73 e = Int32.ofNat t) :
    se_bad N P mc mm (sf_78_10 (Int32.ofNat n) mc) (sf_292 1 (mm.I 73 e) mm) ∨
    ∃ mc1 mm1, sf_78_10 (Int32.ofNat n) mc = sf_78_10 (Int32.ofNat (n + 1)) mc1 ∧ sf_292 1 (mm.I 73 e) mm = some (true, mm1) ∧ sp + 1 ≤ 3000 ∧ mc1.I 41 13 = Int32.ofNat (i + 1) ∧ se_c N K P V C gs u z q B fr cl (sp + 1) cw ifs cd kn mc1 ∧ se_m N K P V A q B (sp + 1) ifs cd kn inn tp li ac mm1 ∧ (∀ {u z q fr cl : Nat}, se_F u z q fr cl mc mc1) ∧ sh_Rr mm mm1 ∧ mm1.I 66 73 = Int32.ofNat un := by
  have bn := h.bd.n5
  have bz := h.bd.z2
  have b4 := h.bd.bb4
  have s3 := h.bd.sp3
  have at1 := h.hc.at (n := n) (by omega) h.hat h.c10 hi h.c6 c0 w0 rfl
  have c1 := h.hc.nx (i := i + 1)
  have m73 : mm.I 73 e = Int32.ofNat t := (congrFun (h.hm.aa 73 (by omega) (by omega)) e).trans h73
  have cls : sf_78_10 (Int32.ofNat n) mc = se_go n (sf_90 (Int32.ofNat 1) (Int32.ofNat t) (se_nx (i + 1) mc)) := se_a0 at1
  rw [m73, cls, show (1 : Int32) = Int32.ofNat 1 from rfl]
  rcases se_pay (x := 1) (i := t) h.tx.N4 c1 h.hm.we h.hm.msp ht (by omega) s3 with bad | ⟨p1, p2, p3⟩
  · left
    obtain ⟨kk, tt, x, y, r1, r2, r3, r4, r5⟩ := bad
    exact ⟨kk, tt, x, y, r1, by rw [r2]; rfl, (se_nxFr (u := 0) (z := 0) (q := 0) (fr := 0) (cl := 0)).thenW r3, r4, r5⟩
  · right
    refine ⟨_, _, by rw [p2]; rfl, p3, p1, ?_, c1.wsp, se_mR h.hm (sh_Rr.wi (by omega)) se_Is, fun {u z q fr cl} => se_nxFr.trans (se_F.wI (u := u) (z := z) (q := q) (fr := fr) (cl := cl) (by omega) (by omega) (by omega) (by omega) (by omega) (by omega)) (Nat.le_refl _) (Nat.le_refl _) (Nat.le_refl _) (Nat.le_refl _) (Nat.le_refl _), sh_Rr.wi (by omega), ?_⟩
    · rw [se_In (by omega)]; exact se_nxA
    · rw [se_In (by omega)]; exact h.w73
/-- the model makes a name of a row -/
theorem se_293 {Q : sh_Q279} {m : sh_X} {t k b nn a : Nat} (h53 : m.I 66 53 = Int32.ofNat q) (hq : q < 3000) (h43 : m.I 66 43 = Int32.ofNat k) (h44 : m.I 66 44 = Int32.ofNat b) (h45 : m.I 66 45 = Int32.ofNat nn) (hn : 0 < nn ∧ nn ≤ 32) (ha : tp ≤ a) (ha2 : a + nn ≤ 70000) :
    ∃ m2, sf_293_77 Q (Int32.ofNat tp) (Int32.ofNat t) (Int32.ofNat a) 0 m = some (true, m2) ∧ se_G0 tp q un li m m2 ∧ m2.I 93 q = Int32.ofNat t ∧ m2.I 94 q = Int32.ofNat k ∧ m2.I 95 q = Int32.ofNat b ∧ m2.I 96 q = Int32.ofNat nn ∧ m2.I 97 q = Int32.ofNat tp ∧ (∀ i, i < nn → m2.J 92 (tp + i) = m.J 92 (a + i)) ∧ m2.I 66 41 = Int32.ofNat (tp + nn) ∧ m2.I 66 53 = Int32.ofNat (q + 1) ∧ (∀ f, f ≠ 41 → f ≠ 53 → m2.I 66 f = m.I 66 f) := by
  have o : sh_okb (Int32.ofNat q) 3000 = true := sh_okn' hq (by omega)
  refine ⟨(m.T, sh_u2 (sh_u2 (sh_u2 (sh_u2 (sh_u2 (sh_u2 (sh_u2 m.I 66 41 (Int32.ofNat (tp + nn))) 93 q (Int32.ofNat t)) 94 q (Int32.ofNat k)) 95 q (Int32.ofNat b)) 96 q (Int32.ofNat nn)) 97 q (Int32.ofNat tp)) 66 53 (Int32.ofNat (q + 1)), se_cp m.J tp a nn, m.s), ?_, ?_, ?_, ?_, ?_, ?_, ?_, ?_, ?_, se_Is, ?_⟩
  · unfold sf_293_77
    refine se_cpl (D := tp) (S := a) (n := nn) (m := m) (fun i J hi => ?_) ?_ (by omega)
    · show sf_293_77s Q (Int32.ofNat tp) (Int32.ofNat t) (Int32.ofNat a) (Int32.ofNat i) (m.T, m.I, J, m.s) = _
      unfold sf_293_77s
      simp only [sh_X.I]
      rw [show m.2.1 = m.I from rfl, h45, sh_nIadd, sh_nIadd, if_pos ((sh_nIlt (by omega) (by omega)).mpr hi), if_pos (sh_okn' (by omega) (by omega)), if_pos (sh_okn' (by omega) (by omega)), sh_nIc (by omega), sh_nIc (by omega), sh_nI1]
    · show sf_293_77s Q (Int32.ofNat tp) (Int32.ofNat t) (Int32.ofNat a) (Int32.ofNat nn) (m.T, m.I, se_cp m.J tp a nn, m.s) = _
      unfold sf_293_77s
      simp only [sh_X.I]
      rw [show m.2.1 = m.I from rfl, h45, h53, h43, h44, if_neg (sh_nlt0 nn), if_pos o, if_pos o, if_pos o, if_pos o, if_pos o, sh_nIc (by omega), sh_nIadd, sh_nI1]
      rfl
  · have L := fun (x : Nat) => Nat.le_refl x
    exact ((((((((se_cpG (m := m) (tp := tp) (q := q) (un := un) (li := li) (D := tp) (S := a) (i := nn) (Nat.le_refl _)).G0.trans (se_G0.wF (f := 41) (x := Int32.ofNat (tp + nn)) (by omega)) (L _) (L _) (L _) (L _)).trans (se_G.wI (c := 93) (i := q) (x := Int32.ofNat t) (by omega)).G0 (L _) (L _) (L _) (L _)).trans (se_G.wI (c := 94) (i := q) (x := Int32.ofNat k) (by omega)).G0 (L _) (L _) (L _) (L _)).trans (se_G.wI (c := 95) (i := q) (x := Int32.ofNat b) (by omega)).G0 (L _) (L _) (L _) (L _)).trans (se_G.wI (c := 96) (i := q) (x := Int32.ofNat nn) (by omega)).G0 (L _) (L _) (L _) (L _)).trans (se_G.wI (c := 97) (i := q) (x := Int32.ofNat tp) (by omega)).G0 (L _) (L _) (L _) (L _)).trans (se_G0.wF (f := 53) (x := Int32.ofNat (q + 1)) (by omega)) (L _) (L _) (L _) (L _))
  · rw [se_Ic (by omega), sh_u2_cell (by omega), sh_u2_cell (by omega), sh_u2_cell (by omega), sh_u2_cell (by omega), sh_u2_same]
  · rw [se_Ic (by omega), sh_u2_cell (by omega), sh_u2_cell (by omega), sh_u2_cell (by omega), sh_u2_same]
  · rw [se_Ic (by omega), sh_u2_cell (by omega), sh_u2_cell (by omega), sh_u2_same]
  · rw [se_Ic (by omega), sh_u2_cell (by omega), sh_u2_same]
  · rw [se_Ic (by omega), sh_u2_same]
  · intro i hi
    exact se_cp_in hi
  · rw [se_In (by omega), sh_u2_cell (by omega), sh_u2_cell (by omega), sh_u2_cell (by omega), sh_u2_cell (by omega), sh_u2_cell (by omega), sh_u2_same]
  · intro f h1 h2
    rw [se_In (by omega), sh_u2_cell (by omega), sh_u2_cell (by omega), sh_u2_cell (by omega), sh_u2_cell (by omega), sh_u2_cell (by omega), sh_u2_idx h1]
end
