/-! EVALUATION: for: one turn -/
noncomputable def se_fgo (n i : Nat) (r : Option (Option Unit × sh_X)) : Option (Option Unit × sh_X) := se_go n (sh_bt r (fun m => (none, m)) fun _ m => some (some (), (m.T, sh_u2 m.I 41 13 (Int32.ofNat i), m.J, m.s)))
section
variable {N : Nat} {K : Nat → Int32} {P V : Nat → Nat} {A C : Nat → Nat → Int32} {p : Nat → Bool} {pf : Nat → Nat} {F c2 un e i j n len d bb sg dq : Nat} {gs : sh_gL} {u z q B M fr cl sp cw ifs cd kn inn tp li : Nat} {ac : Bool} {mc mm : sh_X}
theorem se_iter {w v5 x lenB g : Nat} (HB : se_LB N K P V A C p pf F c2 kn (A 74 e) (i + 2) (j - 1) (d + 1) lenB) (tx : sh_Txt N K P V) (hc : se_c N K P V C gs u z q B (fr + 1) cl sp cw ifs cd kn mc) (hm : se_m N K P V A q B sp ifs cd kn inn tp li ac mm) (hJ : se_J N K V p gs u q B M tp cw ac mc mm) (w73 : mm.I 66 73 = Int32.ofNat un) (f42 : mc.I 42 fr = Int32.ofNat q) (lB : B ≤ q) (c10 : C 28 10 = Int32.ofNat c2) (c6 : c2 ≤ 6000) (ifb : ifs ≤ bb ∧ inn ≤ sp) (hin : (kn < F ∧ 0 < inn) ∨ (kn = F ∧ inn = 0))
    (z2 : 2 * z ≤ bb) (t16 : tp ≤ 16 * bb) (l2 : 2 * li ≤ bb) (q4 : 4 * q ≤ bb) (bb4 : bb + 7 + lenB + 1 + P (pf kn) ≤ 4001) (un4 : un + lenB + P (pf kn) ≤ 4000) (n5 : n + 50 * (3000 - sp) ≤ 500000 + 50 * z) (g14 : gs.length + 14 * (3000 - sp) ≤ 60000) (u5 : 4 * u + 5 * (3000 - sp) ≤ 32000) (f4 : fr + 1 ≤ 4 * cd + 3 * (d + 1) + 4 * sg) (c1 : cl ≤ cd + d) (dq_ : 480 ≤ g + 4 * (d + 1) + 14 * (cd + sg)) (sp3 : sp ≤ 3000) (cd2 : cd ≤ 20) (hd40 : d ≤ 40) (kF : (kn < F ∧ sg = 1 ∧ 1 ≤ d) ∨ (kn = F ∧ sg = 0 ∧ cd = 0))
    (he : e < 9000) (hw : w + 4 ≤ N) (k1 : K w = 1) (k5 : K (w + 4) = 2) (hv5 : V (w + 4) = v5) (hx : x < v5) (hij : i + 2 ≤ j - 1) (hj : j ≤ c2) (c11 : C 36 (j - 1) = 11) (w11 : C 37 (j - 1) = Int32.ofNat w) (x11 : C 38 (j - 1) = Int32.ofNat (i + 1)) :
    se_bad N P mc mm (se_fgo n (i + 2) (sf_150 (Int32.ofNat w) (Int64.ofNat x) mc)) (sf_321_78 (sq_279 (g + 4)) (Int32.ofNat e) (Int32.ofNat w) (Int64.ofNat v5) (Int64.ofNat x) mm) ∨
    ∃ e' n2 mc2 mm2 u2 sp2, se_fgo n (i + 2) (sf_150 (Int32.ofNat w) (Int64.ofNat x) mc) = (if x + 1 < v5 then se_fgo n2 (i + 2) (sf_150 (Int32.ofNat w) (Int64.ofNat (x + 1)) mc2) else se_go n2 (sh_bn (sf_148 mc2) fun _ m => some (some (), m))) ∧ sf_321_78 (sq_279 (g + 4)) (Int32.ofNat e) (Int32.ofNat w) (Int64.ofNat v5) (Int64.ofNat x) mm = sf_321_78 (sq_279 (g + 4)) (Int32.ofNat e) (Int32.ofNat w) (Int64.ofNat v5) (Int64.ofNat (x + 1)) mm2 ∧ se_So N K P V A C p F un j n 0 bb gs u z q B M (fr + 1) cl sp cw ifs cd kn inn li ac mc mm e' n2 mc2 mm2 u2 sp2 tp q ∧ n2 + 50 * (3000 - sp2) + 49 ≤ n + 50 * (3000 - sp) := by
  have N4 := tx.N4
  have L := fun (x : Nat) => Nat.le_refl x
  have oe : sh_okb (Int32.ofNat e) 9000 = true := sh_okn' he (by omega)
  have vb : v5 < 1000000000000000000 := by rw [← hv5]; exact tx.V2 (w + 4) hw k5
  have lt : Int64.ofNat x < Int64.ofNat v5 := by rw [Int64.lt_iff_toInt_lt, se_i64 (by omega), se_i64 (by omega)]; omega
  have x1 : Int64.ofNat x + 1 = Int64.ofNat (x + 1) := by rw [Int64.ofNat_add]; rfl
  have st : sf_321_78s (sq_279 (g + 4)) (Int32.ofNat e) (Int32.ofNat w) (Int64.ofNat v5) (Int64.ofNat x) mm = sh_bn (sf_292 (Int32.ofNat 1) (Int32.ofNat w) mm) fun r1 m11 => if r1 = true then sh_bn (sf_318 (Int32.ofNat w) (m11.T, sh_u2 (sh_u2 (sh_u2 m11.I 66 43 3) 66 44 0) 66 45 0, sh_u2 m11.J 66 46 (Int64.ofNat x), m11.s)) fun _ m12 => sh_bn (sf_290 (sq_279 (g + 3)) (m12.I 74 e) m12) fun r3 m13 => if r3 = true then some (.inl (Int64.ofNat (x + 1), (m13.T, sh_u2 (sh_u2 m13.I 66 53 (m11.I 66 53)) 66 41 (m11.I 66 41), m13.J, m13.s))) else some (.inr (false, m13)) else some (.inr (false, m11)) := by
    unfold sf_321_78s
    rw [if_pos lt, x1, show (1 : Int32) = Int32.ofNat 1 from rfl]
    simp only [if_pos oe, sh_nIc (show e < 2147483648 by omega)]
    rfl
  have endm : ∀ r, sf_321_78s (sq_279 (g + 4)) (Int32.ofNat e) (Int32.ofNat w) (Int64.ofNat v5) (Int64.ofNat x) mm = some (.inr r) → sf_321_78 (sq_279 (g + 4)) (Int32.ofNat e) (Int32.ofNat w) (Int64.ofNat v5) (Int64.ofNat x) mm = some r := by
    intro r h
    unfold sf_321_78
    exact sh_wend (f := fun q => sf_321_78s (sq_279 (g + 4)) (Int32.ofNat e) (Int32.ofNat w) (Int64.ofNat v5) q.1 q.2) h
  have e150 : sf_150 (Int32.ofNat w) (Int64.ofNat x) mc = sh_bt (sf_90 (Int32.ofNat 1) (Int32.ofNat w) mc) (fun m => (none, m)) fun _ m11 => sh_bc (sf_83 (Int32.ofNat w) m11) fun r2 => sh_bn (sf_105 r2 0 0 (Int64.ofNat x) m11) fun _ m13 => some ((some (), m13)) := rfl
  rcases se_pay (x := 1) (i := w) N4 hc hm.we hm.msp (by omega) (by omega) sp3 with bad | ⟨p1, p2, p3⟩
  · left
    obtain ⟨kk, tt, y, y2, r1, r2, r3, r4, r5⟩ := bad
    refine ⟨kk, tt, y, y2, r1, ?_, r3, ?_, r5⟩
    · rw [e150, r2]
      rfl
    · refine endm _ ?_
      rw [st, r4]
      rfl
  -- the name
  have ca := hc.wsp (sp2 := sp + 1)
  have fa : ∀ {u z q fr cl : Nat}, se_F u z q fr cl mc (mc.T, sh_u2 mc.I 41 14 (Int32.ofNat (sp + 1)), mc.J, mc.s) := fun {u z q fr cl} => se_F.wI (by omega) (by omega) (by omega) (by omega) (by omega) (by omega)
  obtain ⟨ma, hma⟩ : ∃ ma : sh_X, (mc.T, sh_u2 mc.I 41 14 (Int32.ofNat (sp + 1)), mc.J, mc.s) = ma := ⟨_, rfl⟩
  have a42 : ma.I 42 = mc.I 42 := by rw [← hma, se_Ic (by omega)]
  rw [hma] at ca fa p2
  obtain ⟨mb, b1, b2, b3, b4, b5, b6, b7, b8, b9, b10, b11, b12, b13⟩ := se_105 ca (by omega) (Int32.ofNat (V w)) 0 0 (Int64.ofNat x)
  have cs := b2.wI (c := 41) (i := 13) (x := Int32.ofNat (i + 2)) (by omega)
  have fs : ∀ {u z q fr cl : Nat}, se_F u z q fr cl mb (mb.T, sh_u2 mb.I 41 13 (Int32.ofNat (i + 2)), mb.J, mb.s) := fun {u z q fr cl} => se_F.wI (by omega) (by omega) (by omega) (by omega) (by omega) (by omega)
  have at13 : sh_X.I (mb.T, sh_u2 mb.I 41 13 (Int32.ofNat (i + 2)), mb.J, mb.s) 41 13 = Int32.ofNat (i + 2) := se_Is
  obtain ⟨ms, hms⟩ : ∃ ms : sh_X, (mb.T, sh_u2 mb.I 41 13 (Int32.ofNat (i + 2)), mb.J, mb.s) = ms := ⟨_, rfl⟩
  have s54 : ∀ c, c ≠ 41 → ms.I c = mb.I c := fun c h => by rw [← hms, se_Ic h]
  have s57 : ms.J = mb.J := by rw [← hms]
  have clb : se_fgo n (i + 2) (sf_150 (Int32.ofNat w) (Int64.ofNat x) mc) = sf_78_10 (Int32.ofNat (n + 1)) ms := by
    rw [e150, p2]
    show se_fgo n (i + 2) (sh_bc (sf_83 (Int32.ofNat w) ma) fun r2 => sh_bn (sf_105 r2 0 0 (Int64.ofNat x) ma) fun _ m13 => some ((some (), m13))) = _
    rw [sh_83 tx ca.wc (by omega) k1, sh_bc_some, b1, sh_bn_some, ← hms]
    rfl
  rw [hms] at cs fs at13
  have FK : se_F u z q (fr + 1) cl mc ms := (fa.trans b3 (L _) (L _) (L _) (L _) (L _)).trans fs (L _) (L _) (L _) (L _) (L _)
  -- the model's name
  obtain ⟨m1, hm1⟩ : ∃ m1 : sh_X, (mm.T, sh_u2 mm.I 66 42 (Int32.ofNat (sp + 1)), mm.J, mm.s) = m1 := ⟨_, rfl⟩
  rw [hm1] at p3
  have R1 : sh_Rr mm m1 := by rw [← hm1]; exact sh_Rr.wi (by omega)
  have m1m : se_m N K P V A q B (sp + 1) ifs cd kn inn tp li ac m1 := se_mR hm R1 (by rw [← hm1]; exact se_Is)
  obtain ⟨m2, hm2⟩ : ∃ m2 : sh_X, (m1.T, sh_u2 (sh_u2 (sh_u2 m1.I 66 43 3) 66 44 0) 66 45 0, sh_u2 m1.J 66 46 (Int64.ofNat x), m1.s) = m2 := ⟨_, rfl⟩
  have R2 : sh_Rr m1 m2 := by
    rw [← hm2]
    exact (((sh_Rr.wi (m := m1) (f := 43) (x := 3) (by omega)).trans (sh_Rr.wi (f := 44) (x := 0) (by omega))).trans (sh_Rr.wi (f := 45) (x := 0) (by omega))).trans (sh_Rr.wj (i := 46) (x := Int64.ofNat x))
  have m2m : se_m N K P V A q B (sp + 1) ifs cd kn inn tp li ac m2 := se_mR m1m R2 (by rw [← hm2, se_In (by omega), sh_u2_idx (by omega), sh_u2_idx (by omega)]; exact m1m.msp)
  have e43 : m2.I 66 43 = Int32.ofNat 3 := by rw [← hm2, se_In (by omega), sh_u2_idx (by omega), sh_u2_same]; rfl
  have e45 : m2.I 66 45 = Int32.ofNat 0 := by rw [← hm2]; exact se_Is
  have e46 : m2.J 66 46 = Int64.ofNat x := by rw [← hm2]; exact se_Js
  obtain ⟨m3, c1', c2', c3', c4', c5', c6', c7', c8', c9', c10', c11', c12'⟩ := se_318 (t := w) (q := q) (tp := tp) (k := 3) (n := 0) (un := un) (li := li) (v := fun _ => Int64.ofNat x) m2m.mq (by omega) m2m.mtp (by omega) e43 e45 (by omega) (fun _ => e46) (fun r => absurd r (by omega))
  have mx0 : sh_mx 0 = 1 := rfl
  rw [mx0] at c10'
  have G3 : se_G0 tp q un li mm m3 := ((se_G.R R1).trans (se_G.R R2) (L _) (L _) (L _) (L _)).G0.trans c2' (L _) (L _) (L _) (L _)
  have m3I : ∀ c, 72 ≤ c → c ≤ 91 → m3.I c = A c := fun c h1 h2 => (c2'.I c (by omega) (by omega)).trans (m2m.aa c h1 h2)
  have m3m : se_m N K P V A (q + 1) B (sp + 1) ifs cd kn inn (tp + 1) li ac m3 :=
    se_m.mk (m2m.we.same (c2'.I 71 (by omega) (by omega)) (c2'.I 68 (by omega) (by omega)) (c2'.I 69 (by omega) (by omega)) (c2'.I 70 (by omega) (by omega))) m3I c10' ((c12' 42 (by omega) (by omega)).trans m2m.msp) c11' ((c12' 54 (by omega) (by omega)).trans m2m.mB) ((c12' 55 (by omega) (by omega)).trans m2m.mkn) ((c12' 56 (by omega) (by omega)).trans m2m.mif) ((c12' 57 (by omega) (by omega)).trans m2m.mac) ((c12' 58 (by omega) (by omega)).trans m2m.min_) ((c12' 59 (by omega) (by omega)).trans m2m.mcd) ((c12' 79 (by omega) (by omega)).trans m2m.mli) m2m.ia
  have w3 : m3.I 66 73 = Int32.ofNat un := (c12' 73 (by omega) (by omega)).trans ((R2.F 73 (by omega) (by omega) (by omega) (by omega)).trans ((R1.F 73 (by omega) (by omega) (by omega) (by omega)).trans w73))
  have sa : se_a m3 q = tp := by unfold se_a; rw [c7']; exact sh_nIc (by omega)
  have J3 : se_J N K V p gs u (q + 1) B M (tp + 1) cw ac ms m3 := hJ.add FK G3 ⟨w, 3, 0, 0, tp, by omega, k1, by rw [s54 54 (by omega)]; exact b4, c3', c4', c6', c7', by rw [mx0]; omega, Or.inl ⟨rfl, rfl, by rw [s54 55 (by omega)]; exact b5, by rw [s57, b7, c8', e46], by rw [c8', e46]; exact se_lo (by omega)⟩⟩ (by omega) (by omega) (by omega)
  have st2 : ∀ bo m, sf_290 (sq_279 (g + 3)) (A 74 e) m3 = some (bo, m) → sf_321_78s (sq_279 (g + 4)) (Int32.ofNat e) (Int32.ofNat w) (Int64.ofNat v5) (Int64.ofNat x) mm = if bo = true then some (.inl (Int64.ofNat (x + 1), se_rs q tp m)) else some (.inr (false, m)) := by
    intro bo m hb
    rw [st, p3, sh_bn_some, if_pos rfl, hm2, c1', sh_bn_some, m3I 74 (by omega) (by omega), hb, sh_bn_some, m1m.mq, m1m.mtp]
    rfl
  -- the body
  rcases HB.run (n := n + 1) (dq := g) (bb := bb + 7) (sg := sg) tx cs m3m J3 at13 w3 (fun hd => se_Bd.mk (by omega) (by omega) (by omega) (by omega) (by omega) (by omega) (by omega) (by omega) (by omega) (by omega) (by omega) (by omega) p1 cd2 hd (by omega)) (by omega) (by omega) p1 (by omega) c10 c6 (by omega) hin with bad | ⟨e4, n4, mc4, mm4, u4, sp4, tp4, q4', A1, A2, S4⟩
  · left
    obtain ⟨kk, tt, y, y2, r1, r2, r3, r4, r5⟩ := bad
    refine ⟨kk, tt, y, y2, r1, by rw [clb, r2], FK.thenW r3, endm _ ?_, G3.U.trans r5⟩
    rw [st2 _ _ r4]
    rfl
  right
  have y1 := S4.lq
  have y2 := S4.q4
  have y3 := S4.lu
  have y4 := S4.lsp
  have y5 := S4.sp3
  have y6 := S4.t16
  have y7 := S4.n5
  have y8 := S4.g14
  have y9 := S4.u5
  obtain ⟨R1', R2', R3, R4, R5⟩ := se_rest hJ S4 (by omega) (by omega) (by omega) (fun i hi => ⟨(G3.na i hi).2.2.2.1, (G3.na i hi).2.2.2.2.1⟩)
  -- NEXT
  have at11 := S4.hc.at (n := n4) (by omega) S4.at_ c10 (by omega) c6 c11 w11 x11
  have c5 := S4.hc.nx (i := j - 1 + 1)
  have g42 : (se_nx (j - 1 + 1) mc4).I 42 (fr + 1 - 1) = Int32.ofNat q := by
    rw [se_nxI (by omega), Nat.add_sub_cancel, S4.hF.fr_ fr (by omega), s54 42 (by omega), b10, a42]
    exact f42
  have e145 := se_145 (k := 1) c5 (by omega) (by omega) (by omega) g42
  have ns := (se_nslot c5.cq (show q < q4' by omega) (by omega)).2.2
  have v57 : (se_nx (j - 1 + 1) mc4).J 57 q = Int64.ofNat x := by
    show mc4.J 57 q = _
    rw [(S4.nq q (by omega)).2.2, s57, b7]
  have c6' := c5.w_q (y := q)
  have f6 : ∀ {u z q' fr cl : Nat}, se_F u z q' fr cl mc4 ((se_nx (j - 1 + 1) mc4).T, sh_u2 (se_nx (j - 1 + 1) mc4).I 53 4 (Int32.ofNat q), (se_nx (j - 1 + 1) mc4).J, (se_nx (j - 1 + 1) mc4).s) := fun {u z q' fr cl} => se_nxFr.trans (se_F.wI (u := u) (z := z) (q := q') (fr := fr) (cl := cl) (by omega) (by omega) (by omega) (by omega) (by omega) (by omega)) (L _) (L _) (L _) (L _) (L _)
  have a13 : sh_X.I ((se_nx (j - 1 + 1) mc4).T, sh_u2 (se_nx (j - 1 + 1) mc4).I 53 4 (Int32.ofNat q), (se_nx (j - 1 + 1) mc4).J, (se_nx (j - 1 + 1) mc4).s) 41 13 = Int32.ofNat j := by
    rw [se_Ic (by omega), se_nxA]
    congr 1
    omega
  have e146 := se_146 (q0 := q) c5 (by omega) (by omega)
  obtain ⟨mc5, hmc5⟩ : ∃ mc5 : sh_X, ((se_nx (j - 1 + 1) mc4).T, sh_u2 (se_nx (j - 1 + 1) mc4).I 53 4 (Int32.ofNat q), (se_nx (j - 1 + 1) mc4).J, (se_nx (j - 1 + 1) mc4).s) = mc5 := ⟨_, rfl⟩
  rw [hmc5] at c6' a13 e146
  have f6 : ∀ {u z q' fr cl : Nat}, se_F u z q' fr cl mc4 mc5 := fun {u z q' fr cl} => by rw [← hmc5]; exact f6
  have e66 : sf_66 (Int32.ofNat (w + 4)) mc5 = some (Int64.ofNat v5) := by rw [sh_66 c6'.wc N4 hw (Or.inr (Or.inl k5)), hv5]
  have lt2 : Int64.ofNat (x + 1) < Int64.ofNat v5 ↔ x + 1 < v5 := by rw [Int64.lt_iff_toInt_lt, se_i64 (by omega), se_i64 (by omega)]; omega
  have cl11 : se_fgo n (i + 2) (sf_150 (Int32.ofNat w) (Int64.ofNat x) mc) = if x + 1 < v5 then se_fgo n4 (i + 2) (sf_150 (Int32.ofNat w) (Int64.ofNat (x + 1)) mc5) else se_go n4 (sh_bn (sf_148 mc5) fun _ m => some (some (), m)) := by
    rw [clb, A1, se_a11 at11]
    unfold sf_151
    rw [show (1 : Int32) = Int32.ofNat 1 from rfl, e145, sh_bc_some, ns, sh_bc_some, sh_bc_some, e146, sh_bn_some, v57, x1, show (4 : Int32) = Int32.ofNat 4 from rfl, sh_nIadd, e66, sh_bc_some, sh_nIadd]
    by_cases h : x + 1 < v5
    · rw [if_pos (lt2.mpr h), if_pos h]
      rfl
    · rw [if_neg (fun r => h (lt2.mp r)), if_neg h]
  refine ⟨e4, n4, mc5, se_rs q tp mm4, u4, sp4, cl11, ?_, se_So.mk a13 c6' R1' (R2'.keep0 (e := []) (z := 0) (fr := 0) (cl := 0) (un := 0) (li := 0) f6 (se_G0.refl _) (L _) (L _)) (((FK.F2.less (u := u) (z := z) (q := B) (fr := fr + 1) (cl := cl) (L _) (L _) lB (L _) (L _)).trans S4.hF (L _) (L _) (L _) (L _) (L _)).trans f6.F2 (L _) (L _) (L _) (L _) (L _)) (fun y hy => ?_) ((G3.less (tp := M) (q := q) (un := un) (li := li) hJ.lM (L _) (L _) (L _)).G2.trans R3 (L _) (by omega) (L _) (L _)) (fun r => ((se_No.of FK G3).trans (R5 r)).trans (se_No.of (f6 (u := 0) (z := 0) (q' := 0) (fr := 0) (cl := 0)) (se_G0.refl (tp := 0) (q := 0) (un := 0) (li := 0) _))) R4 (L _) (by omega) y3 (by omega) y5 (by omega) (by omega) (by omega) (by omega), by omega⟩
  · unfold sf_321_78
    exact sh_wstep (f := fun q => sf_321_78s (sq_279 (g + 4)) (Int32.ofNat e) (Int32.ofNat w) (Int64.ofNat v5) q.1 q.2) (by
      show sf_321_78s (sq_279 (g + 4)) (Int32.ofNat e) (Int32.ofNat w) (Int64.ofNat v5) (Int64.ofNat x) mm = _
      rw [st2 _ _ A2]
      rfl)
  · have q1 := S4.nq y (by omega)
    have q2 := FK.na y hy
    have q3 := (f6 (u := 0) (z := 0) (q' := q) (fr := 0) (cl := 0)).na y hy
    exact ⟨q3.1.trans (q1.1.trans q2.1), q3.2.1.trans (q1.2.1.trans q2.2.1), q3.2.2.2.trans (q1.2.2.trans q2.2.2.2)⟩
end
