/-! EVALUATION: statements: x[i] = E -/
/-- the model writes an element into a row's place, where it is active and the index is one -/
theorem se_419 {Q : sh_Q279} {ix n a : Nat} {ac : Bool} {m : sh_X} {xv ve : Int64} (hix : ix < 3000) (h57 : m.I 66 57 = sh_b2 ac) (i96 : m.I 96 ix = Int32.ofNat n) (i97 : m.I 97 ix = Int32.ofNat a) (hn : n ≤ 32) (hn0 : 0 < n) (ha : a + 32 ≤ 70000) (v0 : m.J 66 46 = ve) :
    ∃ J2, sf_319_419 Q (Int32.ofNat ix) xv m = some (true, (m.T, m.I, J2, m.s)) ∧ (∀ c, c ≠ 92 → J2 c = m.J c) ∧ (∀ j, j < a ∨ a + sh_mx n ≤ j → J2 92 j = m.J 92 j) ∧ (∀ i, i < sh_mx n → J2 92 (a + i) = if ac = true then (if xv.toInt = (i : Int) then ve else m.J 92 (a + i)) else m.J 92 (a + i)) := by
  have o : sh_okb (Int32.ofNat ix) 3000 = true := sh_okn' hix (by omega)
  have mxn : sh_mx n = n := sh_mx_pos hn0
  have z0 : xv < 0 ↔ xv.toInt < 0 := sh_lt0
  have zn : xv < Int32.toInt64 (Int32.ofNat n) ↔ xv.toInt < (n : Int) := by rw [Int64.lt_iff_toInt_lt, Int32.toInt_toInt64, sh_nI (by omega)]
  rw [mxn]
  cases ac with
  | false =>
    refine ⟨m.J, ?_, fun _ _ => rfl, fun _ _ => rfl, fun i _ => by rw [if_neg (by decide)]⟩
    unfold sf_319_419
    rw [h57, if_pos (by decide)]
  | true =>
    by_cases q : 0 ≤ xv.toInt ∧ xv.toInt < (n : Int)
    · have tn : xv.toBitVec.toNat = xv.toInt.toNat := by
        have := sh_pos_nat (x := xv) (fun r => by have := z0.mp r; omega)
        omega
      have t32 : Int64.toInt32 xv = Int32.ofNat xv.toInt.toNat := sh_to32 (fun r => by have := z0.mp r; omega) tn (by omega)
      refine ⟨sh_u2 m.J 92 (a + xv.toInt.toNat) ve, ?_, fun c hc => sh_u2_cell hc, fun j hj => sh_u2_idx (by omega), fun i hi => ?_⟩
      · unfold sf_319_419
        rw [h57, if_neg (by decide), if_neg (fun r => by have := z0.mp r; omega), if_pos o, sh_nIc (by omega), i96, if_pos (zn.mpr q.2), if_pos o, i97, t32, sh_nIadd, if_pos (sh_okn' (by omega) (by omega)), sh_nIc (by omega), v0]
      · rw [if_pos rfl]
        by_cases e : xv.toInt = (i : Int)
        · rw [if_pos e, show a + xv.toInt.toNat = a + i by omega, sh_u2_same]
        · rw [if_neg e, sh_u2_idx (by omega)]
    · refine ⟨m.J, ?_, fun _ _ => rfl, fun _ _ => rfl, fun i hi => by rw [if_pos rfl, if_neg (by omega)]⟩
      unfold sf_319_419
      rw [h57, if_neg (by decide)]
      by_cases q0 : xv.toInt < 0
      · rw [if_pos (z0.mpr q0)]
      · rw [if_neg (fun r => q0 (z0.mp r)), if_pos o, sh_nIc (by omega), i96, if_neg (fun r => q ⟨by omega, zn.mp r⟩)]
section
variable {N : Nat} {K : Nat → Int32} {P V : Nat → Nat} {A C : Nat → Nat → Int32} {p : Nat → Bool} {pf : Nat → Nat} {F c2 un e i j n len d bb sg dq : Nat} {gs : sh_gL} {u z q B M fr cl sp cw ifs cd kn inn tp li : Nat} {ac : Bool} {mc mm : sh_X}
theorem se_Bd.unn {gl un2 : Nat} (h : se_Bd P pf F n gl u z q fr cl sp cd kn tp li un dq d len bb sg) (hu : un2 ≤ un) : se_Bd P pf F n gl u z q fr cl sp cd kn tp li un2 dq d len bb sg := by
  have := h.un4
  exact se_Bd.mk h.z2 h.t16 h.l2 h.q4 h.bb4 (by omega) h.n5 h.g14 h.u5 h.f4 h.c1 h.dq_ h.sp3 h.cd2 h.d40 h.kF
theorem se_asi {a b0 p0 len1 len2 k1 tv : Nat} (ok2 : se_OK N K P V A C p pf F c2 kn b0 (i + 3) k1 (d + 1) len2) (ok : se_OK N K P V A C p pf F c2 kn a (k1 + 1) (j - 1) d len1) (h : se_Ps N K P V A C p pf F c2 un i n len d bb sg dq gs u z q B M fr cl sp cw ifs cd kn inn tp li ac mc mm) (hk1 : i + 3 ≤ k1) (hk2 : k1 + 1 ≤ j - 1) (hj : j ≤ c2) (hd : d + 1 ≤ 40) (he : e < 9000) (ha : a < 9000) (hb : b0 < 9000) (h72 : A 72 e = 21) (h73 : A 73 e = Int32.ofNat p0) (h74 : A 74 e = Int32.ofNat a) (h75 : A 75 e = Int32.ofNat b0) (h76 : A 76 e = Int32.ofNat (p0 + 1)) (h78b : A 78 b0 = Int32.ofNat (p0 + 2)) (h78 : A 78 a = Int32.ofNat (tv + 2)) (k1' : K p0 = 1) (hp : p0 + 2 ≤ N) (hpt : tv + 2 ≤ N) (l2 : 1 ≤ len2) (hl : len2 + 1 + len1 + 1 ≤ len)
    (c0 : C 36 i = 0) (w0 : C 37 i = Int32.ofNat p0) (c3 : C 36 (i + 1) = 3) (w3 : C 37 (i + 1) = Int32.ofNat p0) (c4 : C 36 (i + 2) = 4) (w4 : C 37 (i + 2) = Int32.ofNat (p0 + 1)) (x4 : C 38 (i + 2) = Int32.ofNat p0) (c29 : C 36 k1 = 29) (w29 : C 37 k1 = Int32.ofNat (p0 + 2)) (c6 : C 36 (j - 1) = 6) (w6 : C 37 (j - 1) = Int32.ofNat p0) (x6 : C 38 (j - 1) = Int32.ofNat (tv + 2)) :
    se_bad N P mc mm (sf_78_10 (Int32.ofNat n) mc) (sf_291 (sq_279 (dq + 2)) (Int32.ofNat e) mm) ∨
    ∃ e' n2 mc2 mm2 u2 sp2 tp2 q2, sf_78_10 (Int32.ofNat n) mc = sf_78_10 (Int32.ofNat n2) mc2 ∧ sf_291 (sq_279 (dq + 2)) (Int32.ofNat e) mm = some (true, mm2) ∧ se_So N K P V A C p F un j n len bb gs u z q B M fr cl sp cw ifs cd kn inn li ac mc mm e' n2 mc2 mm2 u2 sp2 tp2 q2 := by
  have N4 := h.tx.N4
  have bz := h.bd.z2
  have bq := h.bd.q4
  have bt := h.bd.t16
  have b4 := h.bd.bb4
  have bn := h.bd.n5
  have bu := h.bd.u5
  have bg := h.bd.g14
  have ifb := h.ifb
  have oe : sh_okb (Int32.ofNat e) 9000 = true := sh_okn' he (by omega)
  have e291 : ∀ b m1, sf_292 1 (mm.I 73 e) mm = some (b, m1) → m1.I 72 e = A 72 e → sf_291 (sq_279 (dq + 2)) (Int32.ofNat e) mm = if b = true then sh_bn (sf_319 (sq_279 (dq + 1)) (Int32.ofNat e) m1) fun r3 m13 => some (r3, se_41 (m1.I 66 41) m13) else some (false, m1) := by
    intro b m1 hb hk
    unfold sf_291
    rw [if_pos oe, sh_nIc (by omega), hb, sh_bn_some]
    cases b with
    | false => rfl
    | true =>
      rw [if_pos rfl, if_pos rfl, if_pos oe, hk, h72, if_neg (by decide), if_pos rfl]
      rfl
  rcases se_s0 (e := e) h (by omega) c0 w0 (by omega) he h73 with bad | ⟨mc1, mm1, s1, s2, s3, s4, s5, s6, s7, s8, s9⟩
  · left
    obtain ⟨kk, tt, x, y, r1, r2, r3, r4, r5⟩ := bad
    refine ⟨kk, tt, x, y, r1, r2, r3, ?_, r5⟩
    rw [e291 _ _ r4 (by rw [sh_mftI (by omega), r5.I 72 (by omega) (by omega), h.hm.aa 72 (by omega) (by omega)])]
    rfl
  have md1 : sf_291 (sq_279 (dq + 2)) (Int32.ofNat e) mm = sh_bn (sf_319 (sq_279 (dq + 1)) (Int32.ofNat e) mm1) fun r3 m13 => some (r3, se_41 (Int32.ofNat tp) m13) := by
    rw [e291 _ _ s2 (by rw [s6.aa 72 (by omega) (by omega)]), if_pos rfl, s6.mtp]
  have fin : ∀ {kk : Int32} {tt : Nat} {x y : sh_X}, tt ≤ N → sf_78_10 (Int32.ofNat n) mc = some (none, sh_flt kk (Int32.ofNat (P tt)) x) → se_W mc x → sf_319 (sq_279 (dq + 1)) (Int32.ofNat e) mm1 = some (false, sh_mft kk (Int32.ofNat (P tt)) y) → se_U mm y → se_bad N P mc mm (sf_78_10 (Int32.ofNat n) mc) (sf_291 (sq_279 (dq + 2)) (Int32.ofNat e) mm) := by
    intro kk tt x y r1 r2 r3 r4 r5
    refine ⟨kk, tt, x, (y.T, sh_u2 y.I 66 41 (Int32.ofNat tp), y.J, y.s), r1, r2, r3, ?_, r5.trans (se_G0.wF (tp := 0) (q := 0) (un := 0) (li := 0) (f := 41) (by omega)).U⟩
    rw [md1, r4, sh_bn_some, ← se_mft41]
    rfl
  have L := fun (x : Nat) => Nat.le_refl x
  have G1 : ∀ {tq qq uu ll : Nat}, se_G tq qq uu ll mm mm1 := fun {tq qq uu ll} => se_G.R s8
  -- NAME
  have at1 := s5.at (n := n + 1) (by omega) s4 h.c10 (by omega) h.c6 c3 w3 rfl
  have c1 := s5.nx (i := i + 1 + 1)
  have F1 : ∀ {u z q fr cl : Nat}, se_F u z q fr cl mc (se_nx (i + 1 + 1) mc1) := fun {u z q fr cl} => s7.trans (se_nxFr (u := u) (z := z) (q := q) (fr := fr) (cl := cl)) (L _) (L _) (L _) (L _) (L _)
  have J1 : se_J N K V p gs u q B M tp cw ac (se_nx (i + 1 + 1) mc1) mm1 := h.hJ.keep (e := []) (F1 (u := u) (z := z) (q := q) (fr := fr) (cl := cl)) (G1 (tq := tp) (qq := q) (uu := un) (ll := li)) (L _) (L _)
  have n83 := sh_83 h.tx c1.wc (show p0 ≤ N by omega) k1'
  have m73 : mm1.I 73 e = Int32.ofNat p0 := (congrFun (s6.aa 73 (by omega) (by omega)) e).trans h73
  have m75 : mm1.I 75 e = Int32.ofNat b0 := (congrFun (s6.aa 75 (by omega) (by omega)) e).trans h75
  have m76 : mm1.I 76 e = Int32.ofNat (p0 + 1) := (congrFun (s6.aa 76 (by omega) (by omega)) e).trans h76
  have ot : sh_okb (Int32.ofNat p0) 4002 = true := sh_okn' (by omega) (by omega)
  have m69 : mm1.I 69 p0 = Int32.ofNat (P p0) := s6.we.at (by omega)
  rcases se_find h.tx c1 s6 J1 h.lB (by omega) (show p0 ≤ N by omega) k1' with ⟨ix, i1, i2, i3, i4⟩ | ⟨i3, i4⟩
  rotate_left
  · refine Or.inl (fin (kk := 3) (tt := p0) (x := se_nx (i + 1 + 1) mc1) (y := mm1) (by omega) ?_ (F1 (u := 0) (z := 0) (q := 0) (fr := 0) (cl := 0) |>.W c1.rs) ?_ s8.U)
    · rw [s1, se_a3 at1]
      unfold sf_119
      rw [n83, sh_bc_some, i3, sh_bc_some, if_pos rfl, se_fail N4 c1 (by omega)]
      rfl
    · unfold sf_319
      rw [if_pos oe, sh_nIc (by omega), m73, i4, sh_bc_some, if_pos (by decide), if_pos ot, sh_nIc (by omega), m69, sh_252, sh_bn_some]
  obtain ⟨t2, k, b, nn, aa, r1, r2, r3, r4, r5, r6, r7, r8, r9⟩ := J1.nm ix i2
  have oi : sh_okb (Int32.ofNat ix) 3000 = true := sh_okn' (by omega) (by omega)
  have ns := se_nslot c1.cq i2 (by omega)
  rcases r9 with ⟨x1, x2, x3, x4', x5'⟩ | ⟨y1, y2, y3, w, y4, y5⟩
  · -- it has no type
    refine Or.inl (fin (kk := 4) (tt := p0) (x := se_nx (i + 1 + 1) mc1) (y := mm1) (by omega) ?_ (F1 (u := 0) (z := 0) (q := 0) (fr := 0) (cl := 0) |>.W c1.rs) ?_ s8.U)
    · rw [s1, se_a3 at1]
      unfold sf_119 sf_119_30
      rw [n83, sh_bc_some, i3, sh_bc_some, if_neg (se_ne1 (by omega)), ns.1, sh_bc_some, x3, if_pos rfl, se_fail N4 c1 (by omega)]
      rfl
    · unfold sf_319
      rw [if_pos oe, sh_nIc (by omega), m73, i4, sh_bc_some, if_neg (sh_nI0 (by omega)), if_pos oi, sh_nIc (by omega), r5, x1, if_pos (by decide), if_pos ot, sh_nIc (by omega), m69, sh_252, sh_bn_some]
  have k2 := y1.k2
  have n32 := y1.n2
  have cl1 : sf_78_10 (Int32.ofNat n) mc = sf_78_10 (Int32.ofNat (n + 1 + 1)) (se_nx (i + 1 + 1) mc1) := by
    rw [s1, se_a3 at1]
    unfold sf_119 sf_119_30
    rw [n83, sh_bc_some, i3, sh_bc_some, if_neg (se_ne1 (by omega)), ns.1, sh_bc_some, y2, if_neg (sh_te_0 y1)]
    rfl
  have nk3 : ¬ Int32.ofNat k = 3 := fun r => by have := (sh_kI k2 (c := 3) (by omega)).mp r; omega
  -- is it a row
  have at2 := c1.at (n := n + 1 + 1) (by omega) se_nxA h.c10 (by omega) h.c6 c4 w4 x4
  have cx := c1.nx (i := i + 2 + 1)
  have Fx : ∀ {u z q fr cl : Nat}, se_F u z q fr cl mc (se_nx (i + 2 + 1) (se_nx (i + 1 + 1) mc1)) := fun {u z q fr cl} => F1.trans (se_nxFr (u := u) (z := z) (q := q) (fr := fr) (cl := cl)) (L _) (L _) (L _) (L _) (L _)
  have nsx := se_nslot cx.cq i2 (by omega)
  have i3x : sf_92 (Int32.ofNat (V p0)) (se_nx (i + 2 + 1) (se_nx (i + 1 + 1) mc1)) = some (Int32.ofNat ix) := by
    rw [se_92c (B := B) c1.cq cx.cq (by rw [cx.cB, c1.cB]) (fun y hy => by rw [se_nxI (by omega)]) (by omega)]
    exact i3
  have t55 : (se_nx (i + 2 + 1) (se_nx (i + 1 + 1) mc1)).I 55 ix = Int32.ofNat (sh_te k b nn) := by rw [se_nxI (by omega)]; exact y2
  have cl2 : sf_78_10 (Int32.ofNat n) mc = se_go (n + 1 + 1) (if decide (0 < nn) = true then some (some (), se_nx (i + 2 + 1) (se_nx (i + 1 + 1) mc1)) else some (none, sh_flt 4 (Int32.ofNat (P (p0 + 1))) (se_nx (i + 2 + 1) (se_nx (i + 1 + 1) mc1)))) := by
    rw [cl1, se_a4 at2]
    unfold sf_122
    rw [sh_83 h.tx cx.wc (show p0 ≤ N by omega) k1', sh_bc_some, i3x, sh_bc_some, nsx.1, sh_bc_some, t55, sh_123 y1, se_fail N4 cx (by omega)]
    rfl
  have e319a : sf_319 (sq_279 (dq + 1)) (Int32.ofNat e) mm1 = sf_319_76 (sq_279 (dq + 1)) (Int32.ofNat e) (Int32.ofNat p0) (Int32.ofNat ix) (Int32.ofNat b) (Int32.ofNat (sh_mx nn)) mm1 := by
    unfold sf_319
    rw [if_pos oe, sh_nIc (by omega), m73, i4, sh_bc_some, if_neg (sh_nI0 (by omega)), if_pos oi, sh_nIc (by omega), r5, if_neg nk3, if_pos oi, if_pos oi, r6, y3]
    by_cases hn : nn = 0
    · rw [if_pos (by rw [hn]; rfl), hn]
      rfl
    · rw [if_neg (show ¬ Int32.ofNat nn = 0 from fun w => hn ((sh_nIeq (b := 0) (by omega) (by omega)).mp w)), if_pos oi, sh_mx_pos (by omega)]
  by_cases hn0 : nn = 0
  · refine Or.inl (fin (kk := 4) (tt := p0 + 1) (x := se_nx (i + 2 + 1) (se_nx (i + 1 + 1) mc1)) (y := mm1) (by omega) ?_ (Fx (u := 0) (z := 0) (q := 0) (fr := 0) (cl := 0) |>.W cx.rs) ?_ s8.U)
    · rw [cl2, decide_eq_false (by omega), if_neg (by decide)]
      rfl
    · rw [e319a]
      unfold sf_319_76
      rw [if_pos oe, sh_nIc (by omega), m75, if_neg (sh_nI0 (by omega)), if_pos oi, sh_nIc (by omega), r6, if_pos (by rw [hn0]; rfl), if_pos oe, m76, if_pos (sh_okn' (by omega) (by omega)), sh_nIc (by omega), s6.we.at (by omega), sh_252, sh_bn_some]
  have nn0 : 0 < nn := by omega
  have mxn : sh_mx nn = nn := sh_mx_pos nn0
  have cl3 : sf_78_10 (Int32.ofNat n) mc = sf_78_10 (Int32.ofNat (n + 1 + 1 + 1)) (se_nx (i + 2 + 1) (se_nx (i + 1 + 1) mc1)) := by
    rw [cl2, decide_eq_true nn0, if_pos rfl]
    rfl
  have e319 : ∀ bo m, sf_294 (sq_279 dq) (Int32.ofNat b0) mm1 = some (bo, m) → sf_319 (sq_279 (dq + 1)) (Int32.ofNat e) mm1 = if bo = true then (if m.I 66 43 = 3 then sf_319_289 (sq_279 (dq + 1)) (Int32.ofNat e) (Int32.ofNat p0) (Int32.ofNat ix) (Int32.ofNat (b * nn)) true m else sf_319_289 (sq_279 (dq + 1)) (Int32.ofNat e) (Int32.ofNat p0) (Int32.ofNat ix) (Int32.ofNat (b * nn)) false m) else some (false, m) := by
    intro bo m hb
    rw [e319a]
    unfold sf_319_76
    rw [if_pos oe, sh_nIc (by omega), m75, if_neg (sh_nI0 (by omega)), if_pos oi, sh_nIc (by omega), r6, if_neg (show ¬ Int32.ofNat nn = 0 from fun w => hn0 ((sh_nIeq (b := 0) (by omega) (by omega)).mp w)), if_pos oe, mxn, sh_nImul]
    show (sh_bn (sf_294 (sq_279 dq) (Int32.ofNat b0) mm1) _) = _
    rw [hb, sh_bn_some]
  have Jx : se_J N K V p gs u q B M tp cw ac (se_nx (i + 2 + 1) (se_nx (i + 1 + 1) mc1)) mm1 := h.hJ.keep (e := []) (Fx (u := u) (z := z) (q := q) (fr := fr) (cl := cl)) (G1 (tq := tp) (qq := q) (uu := un) (ll := li)) (L _) (L _)
  have bd1 : se_Bd P pf F (n + 1 + 1 + 1) gs.length u z q fr cl (sp + 1) cd kn tp li un dq (d + 1) len2 bb sg := by
    have x := h.bd.s1 (n2 := n + 1 + 1 + 1) (len2 := len2) (by omega) s3 (by omega) (Nat.le_refl dq)
    have x1 := x.f4
    have x2 := x.c1
    have x3 := x.dq_
    have x4 := x.kF
    exact se_Bd.mk x.z2 x.t16 x.l2 x.q4 x.bb4 x.un4 x.n5 x.g14 x.u5 (by omega) (by omega) (by omega) x.sp3 x.cd2 (by omega) (by omega)
  rcases se_sev (n := n + 1 + 1 + 1) ok2 h.tx cx s6 Jx se_nxA s9 bd1 h.lB h.c10 h.c6 (by have := h.ifb; omega) hb with bad | ⟨e1, n2, mc2, mm2, u2, sp2, tp2, kb, b', nb, vb, tb, a1, a2, a3, Y⟩
  · left
    obtain ⟨kk, tt, x, y, q1, q2, q3, q4, q5⟩ := bad
    refine fin q1 (by rw [cl3, q2]) ((Fx (u := 0) (z := 0) (q := 0) (fr := 0) (cl := 0)).thenW q3) ?_ (s8.U.trans q5)
    rw [e319 _ _ q4]
    rfl
  have z1 := Y.n5
  have z2 := Y.g14
  have z3 := Y.u5
  have z4 := Y.lu
  have z5 := Y.lsp
  have z6 := Y.sp3
  have z7 := Y.t16
  have z8 := Y.ltp
  -- LOOK
  have at3 := Y.hc.at (n := n2) (by omega) Y.at_ h.c10 (by omega) h.c6 c29 w29 rfl
  have c7 := Y.hc.nx (i := k1 + 1)
  have f7 : se_F u2 (z + 1) q fr cl mc2 (se_nx (k1 + 1) mc2) := se_nxFr
  have D7 := Y.hD.keep (e := []) f7 (by omega) (L _)
  have f70 : se_F u2 z q fr cl mc2 (se_nx (k1 + 1) mc2) := f7.less (L _) (by omega) (L _) (L _) (L _)
  have Fx7 : se_F u z q fr cl (se_nx (i + 2 + 1) (se_nx (i + 1 + 1) mc1)) (se_nx (k1 + 1) mc2) := Y.hF.trans f70 z4 (L _) (L _) (L _) (L _)
  have F7 : se_F u z q fr cl mc (se_nx (k1 + 1) mc2) := (Fx (u := u) (z := z) (q := q) (fr := fr) (cl := cl)).trans Fx7 (L _) (L _) (L _) (L _) (L _)
  have G2 : se_G tp q un li mm mm2 := (G1 (tq := tp) (qq := q) (uu := un) (ll := li)).trans Y.hG (L _) (L _) (L _) (L _)
  have cl4 : sf_78_10 (Int32.ofNat n) mc = se_go n2 (sf_196 (Int32.ofNat (p0 + 2)) (se_nx (k1 + 1) mc2)) := by rw [cl3, a1, se_a29 at3]
  obtain ⟨o93, o94, o95, o96, o97, o98⟩ := Y.hG.na ix i2
  have md2 : ∀ bo m, sf_310 (Int32.ofNat b0) mm2 = some (bo, m) → (bo = true → m.I 95 ix = Int32.ofNat b) → (bo = true → m.I 96 ix = Int32.ofNat nn) → sf_319 (sq_279 (dq + 1)) (Int32.ofNat e) mm1 = if bo = true then sf_319_340 (sq_279 (dq + 1)) (Int32.ofNat e) (Int32.ofNat p0) (Int32.ofNat ix) (Int32.ofNat (b * nn)) (m.J 66 46) (if mm2.I 66 43 = 3 then Int32.ofNat (b * nn) else Int32.ofNat nn * (Int32.ofNat b + m.I 66 44)) m else some (false, m) := by
    intro bo m hb e95 e96
    have e75 : mm2.I 75 e = Int32.ofNat b0 := (congrFun (Y.hm.aa 75 (by omega) (by omega)) e).trans h75
    rw [e319 _ _ a2, if_pos rfl]
    have go : ∀ y0, sf_319_289 (sq_279 (dq + 1)) (Int32.ofNat e) (Int32.ofNat p0) (Int32.ofNat ix) (Int32.ofNat (b * nn)) y0 mm2 = if bo = true then sf_319_340 (sq_279 (dq + 1)) (Int32.ofNat e) (Int32.ofNat p0) (Int32.ofNat ix) (Int32.ofNat (b * nn)) (m.J 66 46) (if y0 = true then Int32.ofNat (b * nn) else Int32.ofNat nn * (Int32.ofNat b + m.I 66 44)) m else some (false, m) := by
      intro y0
      unfold sf_319_289
      rw [if_pos oe, sh_nIc (by omega), e75, hb, sh_bn_some]
      cases bo with
      | false => rfl
      | true =>
        rw [if_pos rfl, if_pos rfl]
        cases y0 with
        | true => rw [if_pos rfl, if_pos rfl]
        | false => rw [if_neg (by decide), if_pos oi, if_pos oi, sh_nIc (by omega), e95 rfl, e96 rfl, if_neg (by decide)]
    by_cases q : mm2.I 66 43 = 3
    · rw [if_pos q, if_pos q, go, if_pos rfl]
    · rw [if_neg q, if_neg q, go, if_neg (show ¬ false = true by decide)]
  rcases se_look (b0 := b0) (w := p0 + 2) N4 c7 (by omega) D7 Y.hm.we Y.hR hb (by rw [Y.hm.aa 73 (by omega) (by omega)]; exact Y.h73) (by rw [Y.hm.aa 78 (by omega) (by omega)]; exact h78b) Y.tN hp with bad | ⟨lk1, nb0, lk2⟩
  · left
    obtain ⟨kk, tt, x, y, q1, q2, q3, q4, q5⟩ := bad
    refine fin q1 (by rw [cl4, q2]; rfl) (F7.thenW q3) ?_ (G2.U.trans q5)
    rw [md2 _ _ q4 (fun r => by cases r) (fun r => by cases r)]
    rfl
  subst nb0
  have cl5 : sf_78_10 (Int32.ofNat n) mc = sf_78_10 (Int32.ofNat (n2 + 1)) (se_nx (k1 + 1) mc2) := by rw [cl4, lk1]; rfl
  have vb0 : mm2.J 66 46 = vb 0 := Y.hR.2.2.2.1 rfl
  obtain ⟨m5, r5', md5, q5a, q5b⟩ : ∃ m5, sh_Rr mm2 m5 ∧ sf_319 (sq_279 (dq + 1)) (Int32.ofNat e) mm1 = sf_319_340 (sq_279 (dq + 1)) (Int32.ofNat e) (Int32.ofNat p0) (Int32.ofNat ix) (Int32.ofNat (b * nn)) (vb 0) (Int32.ofNat (if kb = 3 then b * nn else nn * (b + b'))) m5 ∧ m5.I 66 42 = Int32.ofNat sp2 ∧ m5.J = mm2.J := by
    rcases lk2 with ⟨rfl, k4, k5⟩ | ⟨k4, k5⟩
    · refine ⟨_, (sh_Rr.wi (m := mm2) (f := 43) (x := 2) (by omega)).trans (sh_Rr.wi (f := 44) (x := 32) (by omega)), ?_, by rw [se_In (by omega), se_In (by omega)]; exact Y.hm.msp, rfl⟩
      rw [md2 _ _ k5 (fun _ => by rw [se_Ic (by omega), sh_u2_cell (by omega)]; exact o95.trans y3) (fun _ => by rw [se_Ic (by omega), sh_u2_cell (by omega)]; exact o96.trans r6), if_pos rfl, if_pos (by rw [Y.hR.1]; rfl), if_pos rfl]
      show sf_319_340 _ _ _ _ _ (mm2.J 66 46) _ _ = _
      rw [vb0]
    · refine ⟨mm2, sh_Rr.refl _, ?_, Y.hm.msp, rfl⟩
      rw [md2 _ _ k5 (fun _ => o95.trans y3) (fun _ => o96.trans r6), if_pos rfl, if_neg (by rw [Y.hR.1]; exact fun r => by have := (sh_nIeq (a := kb) (b := 3) (by omega) (by omega)).mp r; omega), if_neg (by omega), Y.hR.2.1 (by omega), sh_nIadd, sh_nImul, vb0]
  have hk2' : kb = 3 ∧ sh_hs 2 32 (vb 0) ∨ (kb = 1 ∨ kb = 2) := by
    rcases lk2 with ⟨r1, r2, _⟩ | ⟨r1, _⟩
    · exact Or.inl ⟨r1, r2⟩
    · exact Or.inr r1
  have m5m : se_m N K P V A q B sp2 ifs cd kn inn tp2 li ac m5 := se_mR Y.hm r5' q5a
  have G5 : se_G tp q un li mm m5 := G2.trans (se_G.R r5') (L _) (L _) (L _) (L _)
  have J5 := h.hJ.keep (e := e1) F7 G5 (by omega) z8
  have w5 : m5.I 66 73 = Int32.ofNat un := (r5'.F 73 (by omega) (by omega) (by omega) (by omega)).trans a3
  -- the value
  rcases se_sev (n := n2 + 1) ok h.tx c7 m5m J5 se_nxA w5 (((h.bd).second (n2 := n2 + 1) (e' := e1) (u2 := u2) (sp2 := sp2) (tp2 := tp2) (len1 := len2) (len2 := len1) (d2 := d) (ex := 0) (by omega) (by omega) (by omega) (by omega) z6 l2 (by omega) (L _) (by omega)).unn (Nat.le_succ un)) h.lB h.c10 h.c6 (by omega) ha with bad | ⟨e2, n3, mc3, mm3, u3, sp3, tp3, kv, bv, nv, v, tv', b1, b2, b3, Y2⟩
  · left
    obtain ⟨kk, tt, x, y, q1, q2, q3, q4, q5⟩ := bad
    refine fin q1 (by rw [cl5, q2]) (F7.thenW q3) ?_ (G5.U.trans q5)
    rw [md5]
    unfold sf_319_340
    rw [if_pos oe, sh_nIc (by omega), (congrFun (m5m.aa 74 (by omega) (by omega)) e).trans h74]
    show (sh_bn (sf_294 (sq_279 dq) (Int32.ofNat a) m5) _) = _
    rw [q4]
    rfl
  have x1 := Y2.n5
  have x2 := Y2.g14
  have x3 := Y2.u5
  have x4' := Y2.lu
  have x5 := Y2.lsp
  have x6' := Y2.sp3
  have x7 := Y2.t16
  have x8 := Y2.ltp
  have G8 : se_G tp q un li mm mm3 := G5.trans Y2.hG z8 (L _) (L _) (L _)
  obtain ⟨p93, p94, p95, p96, p97, p98⟩ := Y2.hG.na ix i2
  have g94 : mm3.I 94 ix = Int32.ofNat k := by rw [p94, r5'.I 94 (by omega)]; exact o94.trans r5
  have g95 : mm3.I 95 ix = Int32.ofNat b := by rw [p95, r5'.I 95 (by omega)]; exact o95.trans y3
  have g96 : mm3.I 96 ix = Int32.ofNat nn := by rw [p96, r5'.I 96 (by omega)]; exact o96.trans r6
  have g97 : mm3.I 97 ix = Int32.ofNat aa := by rw [p97, r5'.I 97 (by omega)]; exact o97.trans r7
  obtain ⟨cost, hcost⟩ : ∃ cost, cost = (if kb = 3 then b * nn else nn * (b + b')) := ⟨_, rfl⟩
  rw [← hcost] at md5
  have md6 : ∀ bo m, sf_317 (Int32.ofNat a) (Int32.ofNat k) (Int32.ofNat b) (Int32.ofNat 0) mm3 = some (bo, m) → m.I 76 e = Int32.ofNat (p0 + 1) → sf_319 (sq_279 (dq + 1)) (Int32.ofNat e) mm1 = if bo = true then sh_bn (sf_292 (Int32.ofNat cost) (Int32.ofNat (p0 + 1)) m) (fun r3 m13 => if r3 = true then (if 0 < m13.I 66 56 then sh_bn (sf_292 (Int32.ofNat (b * nn)) (Int32.ofNat p0) m13) (fun r4 m14 => if r4 = true then sf_319_419 (sq_279 (dq + 1)) (Int32.ofNat ix) (vb 0) m14 else some (false, m14)) else sf_319_419 (sq_279 (dq + 1)) (Int32.ofNat ix) (vb 0) m13) else some (false, m13)) else some (false, m) := by
    intro bo m hb e76
    rw [md5]
    unfold sf_319_340
    rw [if_pos oe, sh_nIc (by omega), (congrFun (m5m.aa 74 (by omega) (by omega)) e).trans h74]
    show (sh_bn (sf_294 (sq_279 dq) (Int32.ofNat a) m5) _) = _
    rw [b2, sh_bn_some, if_pos rfl, if_pos oe, if_pos oi, if_pos oi, sh_nIc (by omega), (congrFun (Y2.hm.aa 74 (by omega) (by omega)) e).trans h74, g94, g95, show (0 : Int32) = Int32.ofNat 0 from rfl, hb, sh_bn_some]
    cases bo with
    | false => rfl
    | true => rw [if_pos rfl, if_pos rfl, if_pos oe, e76]
  -- the store
  have at6 := Y2.hc.at (n := n3) (by omega) Y2.at_ h.c10 (by omega) h.c6 c6 w6 x6
  have c8 := Y2.hc.nx (i := j - 1 + 1)
  have f8 : se_F u3 (z + 1 + 1) q fr cl mc3 (se_nx (j - 1 + 1) mc3) := se_nxFr
  have F78 : se_F u2 (z + 1) q fr cl (se_nx (k1 + 1) mc2) (se_nx (j - 1 + 1) mc3) := Y2.hF.trans (f8.less (u := u3) (z := z + 1) (q := q) (fr := fr) (cl := cl) (L _) (by omega) (L _) (L _) (L _)) x4' (L _) (L _) (L _) (L _)
  have F780 : se_F u2 z q fr cl (se_nx (k1 + 1) mc2) (se_nx (j - 1 + 1) mc3) := F78.less (L _) (by omega) (L _) (L _) (L _)
  have F8 : se_F u z q fr cl mc (se_nx (j - 1 + 1) mc3) := F7.trans F780 z4 (L _) (L _) (L _) (L _)
  have Fx8 : se_F u z q fr cl (se_nx (i + 2 + 1) (se_nx (i + 1 + 1) mc1)) (se_nx (j - 1 + 1) mc3) := Fx7.trans F780 z4 (L _) (L _) (L _) (L _)
  have D8 := Y2.hD.keep (e := []) f8 (by omega) (L _)
  have I8 := D7.keep (e := e2) F78 (by omega) x4'
  have f92 : sf_92 (Int32.ofNat (V p0)) (se_nx (j - 1 + 1) mc3) = some (Int32.ofNat ix) := by
    rw [se_92c (B := B) cx.cq c8.cq (by rw [c8.cB, cx.cB]) (fun y hy => (Fx8.na y hy).1) (by omega)]
    exact i3x
  have p55 : (se_nx (j - 1 + 1) mc3).I 55 ix = Int32.ofNat (sh_te k b nn) := (Fx8.na ix i2).2.1.trans t55
  have ns8 := se_nslot c8.cq i2 (by omega)
  have cl6 : sf_78_10 (Int32.ofNat n) mc = se_go n3 (sh_bt (sf_125 (Int32.ofNat (sh_te k b 0)) (Int32.ofNat (tv + 2)) (se_nx (j - 1 + 1) mc3)) (fun m => (none, m)) fun _ m15 => sh_bc (sf_117 ((m15.I 48 4) - 1) m15) fun r6 => sh_bn (sf_118 1 m15) fun _ m17 => se_134 (Int32.ofNat p0) (Int32.ofNat ix) (Int32.ofNat (sh_te k b nn)) r6 m17) := by
    rw [cl5, b1, se_a6 at6]
    unfold sf_134
    rw [sh_83 h.tx c8.wc (show p0 ≤ N by omega) k1', sh_bc_some, f92, sh_bc_some, ns8.1, sh_bc_some, p55, sh_135 y1]
    rfl
  rcases se_dem (e := a) (w := tv + 2) N4 c8 (by omega) D8 Y2.tN x6' (by omega) Y2.hm.we Y2.hm.msp Y2.hR ha (by rw [Y2.hm.aa 73 (by omega) (by omega)]; exact Y2.h73) (by rw [Y2.hm.aa 78 (by omega) (by omega)]; exact h78) hpt y1.el with bad | ⟨mc4, mm4, d1, d2, e3, u4, sp4, Z1, Z2, Z3, Z4, Z5, Z6, Z7, Z8, Z9, Z10, Z11, Z12⟩
  · left
    obtain ⟨kk, tt, x, y, q1, q2, q3, q4, q5⟩ := bad
    refine fin q1 (by rw [cl6, q2]; rfl) (F8.thenW q3) ?_ (G8.U.trans q5)
    rw [md6 _ _ q4 (by rw [sh_mftI (by omega), q5.I 76 (by omega) (by omega)]; exact (congrFun (Y2.hm.aa 76 (by omega) (by omega)) e).trans h76)]
    rfl
  have m4 : se_m N K P V A q B sp4 ifs cd kn inn tp3 li ac mm4 := se_mR Y2.hm Z4 Z6
  have md7 := md6 _ _ d2 ((congrFun (m4.aa 76 (by omega) (by omega)) e).trans h76)
  rw [if_pos rfl] at md7
  have F84 : se_F u3 (z + 1) q fr cl (se_nx (j - 1 + 1) mc3) mc4 := Z2
  have F9 : se_F u z q fr cl mc mc4 := F8.trans (F84.less (u := u3) (z := z) (q := q) (fr := fr) (cl := cl) (L _) (by omega) (L _) (L _) (L _)) (by omega) (L _) (L _) (L _) (L _)
  have Fx9 : se_F u z q fr cl (se_nx (i + 2 + 1) (se_nx (i + 1 + 1) mc1)) mc4 := Fx8.trans (F84.less (u := u3) (z := z) (q := q) (fr := fr) (cl := cl) (L _) (by omega) (L _) (L _) (L _)) (by omega) (L _) (L _) (L _) (L _)
  have I9 := I8.keep (e := e3) F84 (by omega) Z8
  obtain ⟨_, t49, w', t50, tV⟩ := Z3
  have sl := (se_slot Z1.cz (by omega : z + 1 < z + 1 + 1) (by omega)).2.2.2
  have c9 := Z1.wz (z2 := z + 1)
  have fz : ∀ {u q fr cl z : Nat}, se_F u z q fr cl mc4 (mc4.T, sh_u2 mc4.I 48 4 (Int32.ofNat (z + 1)), mc4.J, mc4.s) := fun {u q fr cl z} => se_F.wI (by omega) (by omega) (by omega) (by omega) (by omega) (by omega)
  have fzz : ∀ {u q fr cl zz z : Nat}, se_F u zz q fr cl mc4 (mc4.T, sh_u2 mc4.I 48 4 (Int32.ofNat (z + 1)), mc4.J, mc4.s) := fun {u q fr cl zz z} => se_F.wI (by omega) (by omega) (by omega) (by omega) (by omega) (by omega)
  have k9 : ∀ c, c ≠ 48 → sh_X.I (mc4.T, sh_u2 mc4.I 48 4 (Int32.ofNat (z + 1)), mc4.J, mc4.s) c = mc4.I c := fun c hc => se_Ic hc
  have cl7 : sf_78_10 (Int32.ofNat n) mc = se_go n3 (se_134 (Int32.ofNat p0) (Int32.ofNat ix) (Int32.ofNat (sh_te k b nn)) (Int32.ofNat w') (mc4.T, sh_u2 mc4.I 48 4 (Int32.ofNat (z + 1)), mc4.J, mc4.s)) := by
    rw [cl6, d1]
    show se_go n3 (sh_bc (sf_117 ((mc4.I 48 4) - 1) mc4) _) = _
    rw [Z1.cz, se_um1, sl, sh_bc_some, t50, show (1 : Int32) = Int32.ofNat 1 from rfl, se_118 Z1 (by omega) (by omega), sh_bn_some]
    rfl
  have hv := tV.keep (e := []) (u2 := u4) (m2 := (mc4.T, sh_u2 mc4.I 48 4 (Int32.ofNat (z + 1)), mc4.J, mc4.s)) (L _) (fun y _ => by rw [k9 45 (by omega)])
  have I10 := I9.keep (e := []) (u2 := u4) (z := z + 1) (q := 0) (fr := 0) (cl := 0) (m2 := (mc4.T, sh_u2 mc4.I 48 4 (Int32.ofNat (z + 1)), mc4.J, mc4.s)) fzz (by omega) (L _)
  have G9 : se_G tp q un li mm mm4 := G8.trans (se_G.R Z4) (L _) (L _) (L _) (L _)
  have G19 : se_G tp q un li mm1 mm4 := ((Y.hG.trans (se_G.R r5') (L _) (L _) (L _) (L _)).trans Y2.hG z8 (L _) (L _) (L _)).trans (se_G.R Z4) (L _) (L _) (L _) (L _)
  have ee : e3 ++ (e2 ++ (e1 ++ gs)) = (e3 ++ e2 ++ e1) ++ gs := by rw [List.append_assoc, List.append_assoc]
  have mem4 : ∀ x, x < sh_mx nn → mm1.J 92 (aa + x) = mm4.J 92 (aa + x) := fun x hx => (G19.me (aa + x) (by omega)).symm
  have yx : se_V p (se_nx (i + 2 + 1) (se_nx (i + 1 + 1) mc1)) ([] ++ gs) u w k b nn (fun x => mm1.J 92 (aa + x)) := y5.keep (e := []) (u2 := u) (m2 := se_nx (i + 2 + 1) (se_nx (i + 1 + 1) mc1)) (L _) (fun y _ => by rw [se_nxI (by omega)])
  have h0 : se_V p (mc4.T, sh_u2 mc4.I 48 4 (Int32.ofNat (z + 1)), mc4.J, mc4.s) ((e3 ++ e2 ++ e1) ++ gs) u4 w k b nn (fun x => mm4.J 92 (aa + x)) := (yx.keep (e := e3 ++ e2 ++ e1) (u2 := u4) (m2 := (mc4.T, sh_u2 mc4.I 48 4 (Int32.ofNat (z + 1)), mc4.J, mc4.s)) (by omega) (fun y hy => by rw [k9 45 (by omega)]; exact Fx9.po y hy)).cong mem4
  have hv' : se_V p (mc4.T, sh_u2 mc4.I 48 4 (Int32.ofNat (z + 1)), mc4.J, mc4.s) ((e3 ++ e2 ++ e1) ++ gs) u4 w' k b 0 v := by rw [← ee]; exact hv
  have I10' : se_D p (mc4.T, sh_u2 mc4.I 48 4 (Int32.ofNat (z + 1)), mc4.J, mc4.s) ((e3 ++ e2 ++ e1) ++ gs) u4 z tb kb b' 0 vb := by rw [← ee]; exact I10
  rw [ee] at Z1 Z11 c9
  have v0 : mm4.J 66 46 = v 0 := Z5.2.2.2.1 rfl
  obtain ⟨cost', hc0, hc1, hc2, put⟩ := se_put (ix := ix) (t0 := p0) (mm := mm4) N4 c9 (by omega) (by omega) i2 y1 nn0 ((congrFun (k9 56 (by omega)) ix).trans ((Fx9.na ix i2).2.2.1.trans (by rw [se_nxI (by omega)]; exact y4))) h0 hv' I10' hk2' Z10 (by omega) (by omega) m4.we m4.msp (by omega)
  rw [← hcost] at hc0
  subst hc0
  have F10 : se_F u z q fr cl mc (mc4.T, sh_u2 mc4.I 48 4 (Int32.ofNat (z + 1)), mc4.J, mc4.s) := F9.trans fzz (L _) (L _) (L _) (L _) (L _)
  rcases put with bad | ⟨e4, u5, mc5, w2, P1, P2, P3, P4, P5, P6, P7, P8, P9, P10⟩
  · left
    obtain ⟨kk, tt, x, y, q1, q2, q3, q4, q5⟩ := bad
    refine fin q1 (by rw [cl7, q2]; rfl) (F10.thenW q3) ?_ (G9.U.trans q5)
    rw [md7, q4]
    rfl
  obtain ⟨m6, hm6⟩ : ∃ m6 : sh_X, (mm4.T, sh_u2 mm4.I 66 42 (Int32.ofNat (sp4 + cost')), mm4.J, mm4.s) = m6 := ⟨_, rfl⟩
  rw [hm6] at P3
  have R6 : sh_Rr mm4 m6 := by rw [← hm6]; exact sh_Rr.wi (by omega)
  have J6e : m6.J = mm4.J := by rw [← hm6]
  have m66 : se_m N K P V A q B (sp4 + cost') ifs cd kn inn tp3 li ac m6 := se_mR m4 R6 (by rw [← hm6]; exact se_Is)
  have md8 : ∀ bo m, (if 0 < ifs then sf_292 (Int32.ofNat (b * sh_mx nn)) (Int32.ofNat p0) m6 else some (true, m6)) = some (bo, m) → sf_319 (sq_279 (dq + 1)) (Int32.ofNat e) mm1 = if bo = true then sf_319_419 (sq_279 (dq + 1)) (Int32.ofNat ix) (vb 0) m else some (false, m) := by
    intro bo m hb
    rw [md7, P3, sh_bn_some, if_pos rfl, m66.mif]
    rw [mxn] at hb
    by_cases hi : 0 < ifs
    · rw [if_pos hi] at hb
      rw [if_pos ((se_0lt (by omega)).mpr hi), hb, sh_bn_some]
    · rw [if_neg hi] at hb
      cases hb
      rw [if_neg (fun r => hi ((se_0lt (by omega)).mp r)), if_pos rfl]
  have c10 := P4.wz (z2 := z)
  have k10 : ∀ c, c ≠ 48 → sh_X.I (mc5.T, sh_u2 mc5.I 48 4 (Int32.ofNat z), mc5.J, mc5.s) c = mc5.I c := fun c hc => se_Ic hc
  have f10 : ∀ {u zz q fr cl : Nat}, se_F u zz q fr cl mc5 (mc5.T, sh_u2 mc5.I 48 4 (Int32.ofNat z), mc5.J, mc5.s) := fun {u zz q fr cl} => se_F.wI (by omega) (by omega) (by omega) (by omega) (by omega) (by omega)
  have cl8 : sf_78_10 (Int32.ofNat n) mc = se_go n3 (sh_bt (sf_126 (Int32.ofNat ix) (Int32.ofNat p0) (Int32.ofNat w2) (mc5.T, sh_u2 mc5.I 48 4 (Int32.ofNat z), mc5.J, mc5.s)) (fun m => (none, m)) fun _ m17 => some (some (), m17)) := by
    rw [cl7, P2]
    unfold sf_134_187
    rw [show (1 : Int32) = Int32.ofNat 1 from rfl, se_118 P4 (by omega) (by omega), sh_bn_some]
    rfl
  have F11 : se_F u z q fr cl mc (mc5.T, sh_u2 mc5.I 48 4 (Int32.ofNat z), mc5.J, mc5.s) := (F10.trans (P5.less (u := u4) (z := z) (q := q) (fr := fr) (cl := cl) (L _) (by omega) (L _) (L _) (L _)) (by omega) (L _) (L _) (L _) (L _)).trans f10 (L _) (L _) (L _) (L _) (L _)
  have G10 : se_G tp q un li mm m6 := G9.trans (se_G.R R6) (L _) (L _) (L _) (L _)
  have e4e : e4 ++ ((e3 ++ e2 ++ e1) ++ gs) = (e4 ++ e3 ++ e2 ++ e1) ++ gs := by rw [← List.append_assoc, ← List.append_assoc, ← List.append_assoc]
  have l4 : (e4 ++ ((e3 ++ e2 ++ e1) ++ gs)).length = e4.length + ((e3 ++ e2 ++ e1) ++ gs).length := List.length_append
  have l4' : ((e3 ++ e2 ++ e1) ++ gs).length = (e3 ++ (e2 ++ (e1 ++ gs))).length := by rw [ee]
  have J11 : se_J N K V p (e4 ++ ((e3 ++ e2 ++ e1) ++ gs)) u5 q B M tp cw ac (mc5.T, sh_u2 mc5.I 48 4 (Int32.ofNat z), mc5.J, mc5.s) m6 := by
    have := h.hJ.keep (e := e4 ++ e3 ++ e2 ++ e1) (u2 := u5) F11 G10 (by omega) (L _)
    rw [e4e]
    exact this
  have hv11 := P7.keep (e := []) (u2 := u5) (m2 := (mc5.T, sh_u2 mc5.I 48 4 (Int32.ofNat z), mc5.J, mc5.s)) (L _) (fun y _ => by rw [k10 45 (by omega)])
  have h011 := (h0.keep (e := e4) (u2 := u5) (m2 := mc5) P8 (fun y hy => P5.po y hy)).keep (e := []) (u2 := u5) (m2 := (mc5.T, sh_u2 mc5.I 48 4 (Int32.ofNat z), mc5.J, mc5.s)) (L _) (fun y _ => by rw [k10 45 (by omega)])
  have n55 : sh_X.I (mc5.T, sh_u2 mc5.I 48 4 (Int32.ofNat z), mc5.J, mc5.s) 55 ix = Int32.ofNat (sh_te k b nn) := (congrFun (k10 55 (by omega)) ix).trans ((P5.na ix i2).2.1.trans ((congrFun (k9 55 (by omega)) ix).trans ((Fx9.na ix i2).2.1.trans t55)))
  have n56 : sh_X.I (mc5.T, sh_u2 mc5.I 48 4 (Int32.ofNat z), mc5.J, mc5.s) 56 ix = Int32.ofNat w := (congrFun (k10 56 (by omega)) ix).trans ((P5.na ix i2).2.2.1.trans ((congrFun (k9 56 (by omega)) ix).trans ((Fx9.na ix i2).2.2.1.trans (by rw [se_nxI (by omega)]; exact y4))))
  rcases se_126 (t := p0) (ix := ix) (ac := ac) N4 c10 (by omega) i2 y1 n55 n56 hv11 h011 J11.ac_ J11.lcw m66.ia (by omega) m66.we m66.msp (by omega) P1 (show (e4 ++ ((e3 ++ e2 ++ e1) ++ gs)).length + 14 * (3000 - (sp4 + cost')) ≤ 60000 by omega) (by omega) with bad | ⟨e5, u6, sp6, mc6, mm6, w3', g1, g2, g3, g4, g5, g6, g7, g8, g9, g10, g11, g12, g13, g14⟩
  · left
    obtain ⟨kk, tt, x, y, q1, q2, q3, q4, q5⟩ := bad
    refine fin q1 (by rw [cl8, q2]; rfl) (F11.thenW q3) ?_ (G10.U.trans q5)
    rw [md8 _ _ q4]
    rfl
  right
  have R64 : sh_Rr mm4 mm6 := R6.trans g7
  obtain ⟨J2, j1, j2, j3, j4⟩ := se_419 (Q := sq_279 (dq + 1)) (xv := vb 0) (ve := v 0) (ac := ac) (m := mm6) (ix := ix) (n := nn) (a := aa) (by omega) ((g7.F 57 (by omega) (by omega) (by omega) (by omega)).trans m66.mac) (by rw [R64.I 96 (by omega), Z4.I 96 (by omega)]; exact g96) (by rw [R64.I 97 (by omega), Z4.I 97 (by omega)]; exact g97) n32 nn0 (by have := sh_mx_1 nn; omega) (by rw [g8, J6e]; exact v0)
  have J12 : se_J N K V p (e5 ++ (e4 ++ ((e3 ++ e2 ++ e1) ++ gs))) u6 q B M tp cw ac mc6 mm6 := J11.keep (e := e5) (g4 (z := z) (q := q) (fr := fr) (cl := cl)) (se_G.R (un := un) (li := li) g7) g10 (L _)
  have J13 := J12.set (ix := ix) (k := k) (b := b) (n := nn) (a := aa) (w2 := w3') (J2 := J2) i2 (by omega) y1 (by rw [R64.I 94 (by omega), Z4.I 94 (by omega)]; exact g94) (by rw [R64.I 95 (by omega), Z4.I 95 (by omega)]; exact g95) (by rw [R64.I 96 (by omega), Z4.I 96 (by omega)]; exact g96) (by rw [R64.I 97 (by omega), Z4.I 97 (by omega)]; exact g97) r8 (((g4 (z := z) (q := q) (fr := fr) (cl := cl)).na ix i2).2.1.trans n55) j2 j3 (g6.cong (fun x hx => by rw [j4 x hx, g8, J6e]))
  have g41 : ∀ {tq qq uu ll : Nat} {m : sh_X}, se_G0 tq qq uu ll m (se_41 (Int32.ofNat tp) m) := fun {tq qq uu ll m} => se_G0.wF (by omega)
  have J14 := J13.keep0 (e := []) (z := z) (fr := fr) (cl := cl) (un := un) (li := li) (se_F.refl _) g41 (L _) (L _)
  have saa : M ≤ aa := by
    have := J1.nM ix i1 i2
    have sx : se_a mm1 ix = aa := by unfold se_a; rw [r7]; exact sh_nIc (by have := sh_mx_1 nn; omega)
    omega
  have F12 : se_F u z q fr cl mc mc6 := F11.trans (g4 (z := z) (q := q) (fr := fr) (cl := cl)) (by omega) (L _) (L _) (L _) (L _)
  have F13 : se_F u z B fr cl mc (mc6.T, sh_u2 mc6.I 56 ix (Int32.ofNat w3'), mc6.J, mc6.s) := (F12.less (u := u) (z := z) (q := B) (fr := fr) (cl := cl) (L _) (L _) h.lB (L _) (L _)).trans (se_F.wI (c := 56) (i := ix) (x := Int32.ofNat w3') (by omega) (by omega) (by omega) (by omega) (by omega) (by omega)) (L _) (L _) (L _) (L _) (L _)
  have G13 : se_G0 M q un li mm (se_41 (Int32.ofNat tp) (mm6.T, mm6.I, J2, mm6.s)) := ((G10.G0.less (tp := M) (q := q) (un := un) (li := li) h.hJ.lM (L _) (L _) (L _)).trans (se_G.R g7).G0 (L _) (L _) (L _) (L _)).trans ((se_G0.mk rfl rfl (fun _ _ _ => rfl) (fun x _ hx _ _ _ => j2 x hx) (fun _ _ => rfl) (fun y hy => j3 y (by omega)) (fun y _ => ⟨rfl, rfl, rfl, rfl, rfl, by show J2 98 y = _; rw [j2 98 (by omega)]⟩) (fun y _ => ⟨rfl, rfl, rfl, rfl, rfl, rfl, by show J2 111 y = _; rw [j2 111 (by omega)]⟩) (fun y _ => ⟨rfl, rfl, rfl, rfl, by show J2 115 y = _; rw [j2 115 (by omega)]⟩) : se_G0 M q un li mm6 (mm6.T, mm6.I, J2, mm6.s)).trans g41 (L _) (L _) (L _) (L _)) (L _) (L _) (L _) (L _)
  have kk : ∀ y, y ≠ 41 → y ≠ 42 → y ≠ 43 → y ≠ 44 → y ≠ 45 → (se_41 (Int32.ofNat tp) (mm6.T, mm6.I, J2, mm6.s)).I 66 y = mm4.I 66 y := fun y a1 a2 a3 a4 a5 => (se_In (by omega)).trans (R64.F y a2 a3 a4 a5)
  have kc : ∀ y, y ≠ 66 → (se_41 (Int32.ofNat tp) (mm6.T, mm6.I, J2, mm6.s)).I y = mm4.I y := fun y hy => (se_Ic hy).trans (R64.I y hy)
  have M6 : se_m N K P V A q B sp6 ifs cd kn inn tp li ac (se_41 (Int32.ofNat tp) (mm6.T, mm6.I, J2, mm6.s)) :=
    se_m.mk (m4.we.same (kc 71 (by omega)) (kc 68 (by omega)) (kc 69 (by omega)) (kc 70 (by omega))) (fun y h1 h2 => (kc y (by omega)).trans (m4.aa y h1 h2)) se_Is ((se_In (by omega)).trans g9) ((kk 53 (by omega) (by omega) (by omega) (by omega) (by omega)).trans m4.mq) ((kk 54 (by omega) (by omega) (by omega) (by omega) (by omega)).trans m4.mB) ((kk 55 (by omega) (by omega) (by omega) (by omega) (by omega)).trans m4.mkn) ((kk 56 (by omega) (by omega) (by omega) (by omega) (by omega)).trans m4.mif) ((kk 57 (by omega) (by omega) (by omega) (by omega) (by omega)).trans m4.mac) ((kk 58 (by omega) (by omega) (by omega) (by omega) (by omega)).trans m4.min_) ((kk 59 (by omega) (by omega) (by omega) (by omega) (by omega)).trans m4.mcd) ((kk 79 (by omega) (by omega) (by omega) (by omega) (by omega)).trans m4.mli) m4.ia
  have e5e : e5 ++ (e4 ++ ((e3 ++ e2 ++ e1) ++ gs)) = (e5 ++ (e4 ++ e3 ++ e2 ++ e1)) ++ gs := by rw [e4e, List.append_assoc e5 _ gs]
  have c12 := g3.wI (c := 56) (i := ix) (x := Int32.ofNat w3') (by omega)
  have J15 : se_J N K V p (e5 ++ (e4 ++ ((e3 ++ e2 ++ e1) ++ gs))) u6 q B M tp cw ac (mc6.T, sh_u2 mc6.I 56 ix (Int32.ofNat w3'), mc6.J, mc6.s) (se_41 (Int32.ofNat tp) (mm6.T, mm6.I, J2, mm6.s)) := J14
  have g13' : (e5 ++ (e4 ++ ((e3 ++ e2 ++ e1) ++ gs))).length + 14 * (3000 - sp6) ≤ (e4 ++ ((e3 ++ e2 ++ e1) ++ gs)).length + 14 * (3000 - (sp4 + cost')) := g13
  rw [e5e] at c12 J15 g13'
  refine ⟨e5 ++ (e4 ++ e3 ++ e2 ++ e1), n3 + 1, _, se_41 (Int32.ofNat tp) (mm6.T, mm6.I, J2, mm6.s), u6, sp6, tp, q, by rw [cl8, g1]; rfl, ?_, se_So.mk ?_ c12 M6 J15 F13.F2 (fun x hx => ⟨by rw [se_Ic (by omega)]; exact (F12.na x hx).1, by rw [se_Ic (by omega)]; exact (F12.na x hx).2.1, (F12.na x hx).2.2.2⟩) G13.G2 (fun _ => se_No.of F13 G13) ?_ (L _) (by omega) (by omega) (by omega) g12 (by omega) (by omega) (by omega) (by omega)⟩
  · rw [md1, md8 _ _ g2, if_pos rfl, j1, sh_bn_some]
  · rw [se_Ic (by omega), g5, k10 41 (by omega), P6, k9 41 (by omega), Z7, se_nxA]
    congr 1
    omega
  · exact (kk 73 (by omega) (by omega) (by omega) (by omega) (by omega)).trans ((Z4.F 73 (by omega) (by omega) (by omega) (by omega)).trans b3)
end
