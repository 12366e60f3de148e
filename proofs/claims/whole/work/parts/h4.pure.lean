/-! EVALUATION: if -/
section
variable {N : Nat} {K : Nat → Int32} {P V : Nat → Nat} {A C : Nat → Nat → Int32} {p : Nat → Bool} {pf : Nat → Nat} {F c2 un e i j n len d bb sg dq : Nat} {gs : sh_gL} {u z q B M fr cl sp cw ifs cd kn inn tp li : Nat} {ac : Bool} {mc mm : sh_X}
theorem se_m.w41 {tp2 : Nat} {m : sh_X} (h : se_m N K P V A q B sp ifs cd kn inn tp li ac m) : se_m N K P V A q B sp ifs cd kn inn tp2 li ac (m.T, sh_u2 m.I 66 41 (Int32.ofNat tp2), m.J, m.s) :=
  se_m.mk (h.we.same (se_Ic (by omega)) (se_Ic (by omega)) (se_Ic (by omega)) (se_Ic (by omega))) (fun y h1 h2 => (se_Ic (by omega)).trans (h.aa y h1 h2)) se_Is ((se_In (by omega)).trans h.msp) ((se_In (by omega)).trans h.mq) ((se_In (by omega)).trans h.mB) ((se_In (by omega)).trans h.mkn) ((se_In (by omega)).trans h.mif) ((se_In (by omega)).trans h.mac) ((se_In (by omega)).trans h.min_) ((se_In (by omega)).trans h.mcd) ((se_In (by omega)).trans h.mli) h.ia
theorem se_m.w56 {y : Nat} {m : sh_X} (h : se_m N K P V A q B sp ifs cd kn inn tp li ac m) (ia : y = 0 → ac = true) : se_m N K P V A q B sp y cd kn inn tp li ac (m.T, sh_u2 m.I 66 56 (Int32.ofNat y), m.J, m.s) :=
  se_m.mk (h.we.same (se_Ic (by omega)) (se_Ic (by omega)) (se_Ic (by omega)) (se_Ic (by omega))) (fun y h1 h2 => (se_Ic (by omega)).trans (h.aa y h1 h2)) ((se_In (by omega)).trans h.mtp) ((se_In (by omega)).trans h.msp) ((se_In (by omega)).trans h.mq) ((se_In (by omega)).trans h.mB) ((se_In (by omega)).trans h.mkn) se_Is ((se_In (by omega)).trans h.mac) ((se_In (by omega)).trans h.min_) ((se_In (by omega)).trans h.mcd) ((se_In (by omega)).trans h.mli) ia
theorem se_m.w57 {y : Bool} {m : sh_X} (h : se_m N K P V A q B sp ifs cd kn inn tp li ac m) (ia : ifs = 0 → y = true) : se_m N K P V A q B sp ifs cd kn inn tp li y (m.T, sh_u2 m.I 66 57 (sh_b2 y), m.J, m.s) :=
  se_m.mk (h.we.same (se_Ic (by omega)) (se_Ic (by omega)) (se_Ic (by omega)) (se_Ic (by omega))) (fun y h1 h2 => (se_Ic (by omega)).trans (h.aa y h1 h2)) ((se_In (by omega)).trans h.mtp) ((se_In (by omega)).trans h.msp) ((se_In (by omega)).trans h.mq) ((se_In (by omega)).trans h.mB) ((se_In (by omega)).trans h.mkn) ((se_In (by omega)).trans h.mif) se_Is ((se_In (by omega)).trans h.min_) ((se_In (by omega)).trans h.mcd) ((se_In (by omega)).trans h.mli) ia
/-- what is known of a list in a block -/
def se_LB (N : Nat) (K : Nat → Int32) (P V : Nat → Nat) (A C : Nat → Nat → Int32) (p : Nat → Bool) (pf : Nat → Nat) (F c2 kn : Nat) (x : Int32) (i j d len : Nat) : Prop :=
  ∃ (nL : Nat) (r b s : Nat → Nat), (∀ k, k < nL → r k < 9000 ∧ A 77 (r k) = (if k + 1 < nL then Int32.ofNat (r (k + 1)) else -1) ∧ P (s k) ≤ P (s (k + 1)) ∧ se_SK N K P V A C p pf F c2 kn (r k) (b k) (b (k + 1)) d (P (s (k + 1)) - P (s k))) ∧ (x = if 0 < nL then Int32.ofNat (r 0) else -1) ∧ b 0 = i ∧ b nL = j ∧ (0 < nL → d ≤ 40) ∧ P (s nL) ≤ P (s 0) + len
theorem se_LB.run {x : Int32} (H : se_LB N K P V A C p pf F c2 kn x i j d len) (tx : sh_Txt N K P V) (hc : se_c N K P V C gs u z q B fr cl sp cw ifs cd kn mc) (hm : se_m N K P V A q B sp ifs cd kn inn tp li ac mm) (hJ : se_J N K V p gs u q B M tp cw ac mc mm) (hat : mc.I 41 13 = Int32.ofNat i) (w73 : mm.I 66 73 = Int32.ofNat un) (bd : d ≤ 40 → se_Bd P pf F n gs.length u z q fr cl sp cd kn tp li un dq d len bb sg) (q4 : 4 * q ≤ bb) (t16 : tp ≤ 16 * bb) (s3 : sp ≤ 3000) (lB : B ≤ q) (c10 : C 28 10 = Int32.ofNat c2) (c6 : c2 ≤ 6000) (ifb : ifs ≤ bb ∧ inn ≤ sp) (hin : (kn < F ∧ 0 < inn) ∨ (kn = F ∧ inn = 0)) :
    se_bad N P mc mm (sf_78_10 (Int32.ofNat n) mc) (sf_290 (sq_279 (dq + 3)) x mm) ∨
    ∃ e' n2 mc2 mm2 u2 sp2 tp2 q2, sf_78_10 (Int32.ofNat n) mc = sf_78_10 (Int32.ofNat n2) mc2 ∧ sf_290 (sq_279 (dq + 3)) x mm = some (true, mm2) ∧ se_So N K P V A C p F un j n len bb gs u z q B M fr cl sp cw ifs cd kn inn li ac mc mm e' n2 mc2 mm2 u2 sp2 tp2 q2 := by
  obtain ⟨nL, r, b, s, h1, h2, h3, h4, h5, h6⟩ := H
  subst h3
  subst h4
  exact se_lst0 h1 h2 tx hc hm hJ hat w73 (fun q => bd (h5 q)) q4 t16 s3 lB c10 c6 ifb hin h6
theorem se_if {a p0 len1 lenT lenE k l : Nat} (ok : se_OK N K P V A C p pf F c2 kn a (i + 1) k d len1) (HT : se_LB N K P V A C p pf F c2 kn (A 75 e) (k + 1) l (d + 1) lenT) (HE : (l = j - 1 ∧ A 76 e = -1) ∨ (l + 1 ≤ j - 1 ∧ C 36 l = 8 ∧ se_LB N K P V A C p pf F c2 kn (A 76 e) (l + 1) (j - 1) (d + 1) lenE)) (h : se_Ps N K P V A C p pf F c2 un i n len d bb sg dq gs u z q B M fr cl sp cw ifs cd kn inn tp li ac mc mm) (ik : i + 1 ≤ k) (kl : k + 1 ≤ l) (lj : l ≤ j - 1) (hij : i + 1 < j) (hj : j ≤ c2) (he : e < 9000) (ha : a < 9000) (h72 : A 72 e = 22) (h73 : A 73 e = Int32.ofNat p0) (h74 : A 74 e = Int32.ofNat a) (h78 : A 78 a = Int32.ofNat (p0 + 1)) (hp : p0 + 1 ≤ N) (hl : len1 + lenT + 1 ≤ len) (hl2 : len1 + lenE + 1 ≤ len)
    (c0 : C 36 i = 0) (w0 : C 37 i = Int32.ofNat p0) (c7 : C 36 k = 7) (w7 : C 37 k = Int32.ofNat (p0 + 1)) (c9 : C 36 (j - 1) = 9) :
    se_bad N P mc mm (sf_78_10 (Int32.ofNat n) mc) (sf_291 (sq_279 (dq + 2)) (Int32.ofNat e) mm) ∨
    ∃ e' n2 mc2 mm2 u2 sp2 tp2 q2, sf_78_10 (Int32.ofNat n) mc = sf_78_10 (Int32.ofNat n2) mc2 ∧ sf_291 (sq_279 (dq + 2)) (Int32.ofNat e) mm = some (true, mm2) ∧ se_So N K P V A C p F un j n len bb gs u z q B M fr cl sp cw ifs cd kn inn li ac mc mm e' n2 mc2 mm2 u2 sp2 tp2 q2 := by
  have N4 := h.tx.N4
  have L := fun (x : Nat) => Nat.le_refl x
  have bz := h.bd.z2
  have bl := h.bd.l2
  have bq := h.bd.q4
  have bt := h.bd.t16
  have b4 := h.bd.bb4
  have bun := h.bd.un4
  have bn := h.bd.n5
  have bu := h.bd.u5
  have bg := h.bd.g14
  have bf := h.bd.f4
  have bc := h.bd.c1
  have bdq := h.bd.dq_
  have bcd := h.bd.cd2
  have bd40 := h.bd.d40
  have bkF := h.bd.kF
  have ifb := h.ifb
  have lB := h.lB
  obtain ⟨g, rfl⟩ : ∃ g, dq = g + 3 := ⟨dq - 3, by omega⟩
  have oe : sh_okb (Int32.ofNat e) 9000 = true := sh_okn' he (by omega)
  have e291 : ∀ b m1, sf_292 1 (mm.I 73 e) mm = some (b, m1) → (b = true → m1.I 72 e = 22 ∧ m1.I 74 e = Int32.ofNat a) → sf_291 (sq_279 (g + 3 + 2)) (Int32.ofNat e) mm = if b = true then sh_bn (sf_294 (sq_279 (g + 3 + 1)) (Int32.ofNat a) m1) (fun r4 m14 => if r4 = true then se_ifm (sq_279 (g + 3 + 2)) (Int32.ofNat e) (m1.I 66 41) m14 else some (false, m14)) else some (false, m1) := by
    intro b m1 hb hk
    unfold sf_291
    rw [if_pos oe, sh_nIc (by omega), hb, sh_bn_some]
    cases b with
    | false => rfl
    | true =>
      obtain ⟨k1, k2⟩ := hk rfl
      rw [if_pos rfl, if_pos rfl, if_pos oe, k1, if_neg (by decide), if_neg (by decide), if_pos rfl, if_pos oe, k2]
      unfold se_ifm
      rw [sh_nIc (by omega)]
      rfl
  rcases se_s0 (e := e) h (by omega) c0 w0 (by omega) he h73 with bad | ⟨mc1, mm1, s1, s2, s3, s4, s5, s6, s7, s8, s9⟩
  · left
    obtain ⟨kk, tt, x, y, r1, r2, r3, r4, r5⟩ := bad
    refine ⟨kk, tt, x, y, r1, r2, r3, ?_, r5⟩
    rw [e291 _ _ r4 (fun r => by cases r)]
    rfl
  have md1 : sf_291 (sq_279 (g + 3 + 2)) (Int32.ofNat e) mm = sh_bn (sf_294 (sq_279 (g + 3 + 1)) (Int32.ofNat a) mm1) (fun r4 m14 => if r4 = true then se_ifm (sq_279 (g + 3 + 2)) (Int32.ofNat e) (Int32.ofNat tp) m14 else some (false, m14)) := by
    rw [e291 _ _ s2 (fun _ => ⟨by rw [s6.aa 72 (by omega) (by omega)]; exact h72, by rw [s6.aa 74 (by omega) (by omega)]; exact h74⟩), if_pos rfl, s6.mtp]
  have G1 : ∀ {tq qq uu ll : Nat}, se_G tq qq uu ll mm mm1 := fun {tq qq uu ll} => se_G.R s8
  have J1 : se_J N K V p gs u q B M tp cw ac mc1 mm1 := h.hJ.keep (e := []) (s7 (u := u) (z := z) (q := q) (fr := fr) (cl := cl)) (G1 (tq := tp) (qq := q) (uu := un) (ll := li)) (L _) (L _)
  rcases se_sev (n := n + 1) ok h.tx s5 s6 J1 s4 s9 (h.bd.s1 (n2 := n + 1) (len2 := len1) (dq2 := g + 3 + 1) (by omega) s3 (by omega) (by omega)) h.lB h.c10 h.c6 (by have := h.ifb; omega) ha with bad | ⟨e1, n2, mc2, mm2, u2, sp2, tp2, k', b', nn', v, t, a1, a2, a3, Y⟩
  · left
    obtain ⟨kk, tt, x, y, q1, q2, q3, q4, q5⟩ := bad
    refine ⟨kk, tt, x, y, q1, by rw [s1, q2], (s7 (u := 0) (z := 0) (q := 0) (fr := 0) (cl := 0)).thenW q3, ?_, s8.U.trans q5⟩
    rw [md1, q4]
    rfl
  have x1 := Y.n5
  have x2 := Y.g14
  have x3 := Y.u5
  have x4 := Y.lu
  have x5 := Y.lsp
  have x6 := Y.sp3
  have x7 := Y.t16
  have x8 := Y.ltp
  rw [a2, sh_bn_some, if_pos rfl] at md1
  have at7 := Y.hc.at (n := n2) (by omega) Y.at_ h.c10 (by omega) h.c6 c7 w7 rfl
  have c2' := Y.hc.nx (i := k + 1)
  have f2' : se_F u2 (z + 1) q fr cl mc2 (se_nx (k + 1) mc2) := se_nxFr
  have D2 := Y.hD.keep (e := []) f2' (by omega) (L _)
  have F2 : se_F u z q fr cl mc (se_nx (k + 1) mc2) := ((s7 (u := u) (z := z) (q := q) (fr := fr) (cl := cl)).trans Y.hF (L _) (L _) (L _) (L _) (L _)).trans (f2'.less (u := u2) (z := z) (q := q) (fr := fr) (cl := cl) (L _) (by omega) (L _) (L _) (L _)) x4 (L _) (L _) (L _) (L _)
  have G2 : se_G tp q un li mm mm2 := (G1 (tq := tp) (qq := q) (uu := un) (ll := li)).trans Y.hG (L _) (L _) (L _) (L _)
  have cwl : cw < (e1 ++ gs).length := by have := h.hJ.lcw; rw [List.length_append]; omega
  have cl1 : sf_78_10 (Int32.ofNat n) mc = se_go n2 (sf_142 (Int32.ofNat (p0 + 1)) (se_nx (k + 1) mc2)) := by rw [s1, a1, se_a7 at7]
  rcases se_if1 (Q := sq_279 (g + 3 + 2)) (e := e) (a := a) (w := p0 + 1) (x2 := Int32.ofNat tp) N4 c2' (by omega) D2 Y.tN x6 (by omega) (by omega) Y.hm.we Y.hm.msp Y.hR he ha (by rw [Y.hm.aa 73 (by omega) (by omega)]; exact Y.h73) (by rw [Y.hm.aa 74 (by omega) (by omega)]; exact h74) (by rw [Y.hm.aa 78 (by omega) (by omega)]; exact h78) hp (by omega) cwl (by omega) with bad | ⟨cb, x, cw2, e3, u3, sp3, mc3, mm3, i1, i2, i3, i4, i5, i6, i7, i8, i9, i10, i11, i12, i13, i14, i15, i16, i17, i18, i19⟩
  · left
    obtain ⟨kk, tt, x, y, q1, q2, q3, q4, q5⟩ := bad
    refine ⟨kk, tt, x, y, q1, by rw [cl1, q2]; rfl, F2.thenW q3, by rw [md1, q4], G2.U.trans q5⟩
  rw [i2] at md1
  have cl2 : sf_78_10 (Int32.ofNat n) mc = sf_78_10 (Int32.ofNat (n2 + 1)) mc3 := by rw [cl1, i1]; rfl
  have e3e : e3 ++ (e1 ++ gs) = (e3 ++ e1) ++ gs := by rw [List.append_assoc]
  rw [e3e] at i3 i9 i10 i11 i12 i18
  have F3 : se_F u z q fr cl mc mc3 := F2.trans i4 x4 (L _) (L _) (L _) (L _)
  have m3 : se_m N K P V A q B sp3 ifs cd kn inn tp2 li ac mm3 := se_mR Y.hm i13 i14
  have acv : ac = sh_va p ((e3 ++ e1) ++ gs) cw := by rw [(sh_keep1 (e := e3 ++ e1) h.hJ.lcw (fun _ => rfl)).2 p]; exact h.hJ.ac_
  have va1 : sh_va p ((e3 ++ e1) ++ gs) cw2 = (ac && cb) := by
    rw [i12, (sh_keep1 (e := e1) h.hJ.lcw (fun _ => rfl)).2 p, ← h.hJ.ac_]
  -- the model before the first block
  obtain ⟨mm4, hm4⟩ : ∃ mm4 : sh_X, (mm3.T, sh_u2 (sh_u2 (sh_u2 mm3.I 66 41 (Int32.ofNat tp)) 66 56 (Int32.ofNat (ifs + 1))) 66 57 (sh_b2 (ac && cb)), mm3.J, mm3.s) = mm4 := ⟨_, rfl⟩
  have m4 : se_m N K P V A q B sp3 (ifs + 1) cd kn inn tp li (ac && cb) mm4 := by
    rw [← hm4]
    exact ((m3.w41 (tp2 := tp)).w56 (y := ifs + 1) (fun r => by omega)).w57 (y := ac && cb) (fun r => by omega)
  have G34 : ∀ {tq qq uu ll : Nat}, se_G0 tq qq uu ll mm3 mm4 := fun {tq qq uu ll} => by
    rw [← hm4]
    exact ((se_G0.wF (f := 41) (x := Int32.ofNat tp) (by omega)).trans (se_G0.wF (f := 56) (x := Int32.ofNat (ifs + 1)) (by omega)) (L _) (L _) (L _) (L _)).trans (se_G0.wF (f := 57) (x := sh_b2 (ac && cb)) (by omega)) (L _) (L _) (L _) (L _)
  have G4 : se_G0 tp q un li mm mm4 := (G2.trans (se_G.R i13) (L _) (L _) (L _) (L _)).G0.trans G34 (L _) (L _) (L _) (L _)
  have w4 : mm4.I 66 73 = Int32.ofNat un := by
    rw [← hm4, se_In (by omega), sh_u2_idx (by omega), sh_u2_idx (by omega), i13.F 73 (by omega) (by omega) (by omega) (by omega)]
    exact a3
  have J4 : se_J N K V p ((e3 ++ e1) ++ gs) u3 q B M tp cw2 (ac && cb) mc3 mm4 := (h.hJ.keep0 (e := e3 ++ e1) F3 G4 (by omega) (L _)).cond va1.symm i11
  have md2 : ∀ bo m, sf_320 (sq_279 (g + 4)) (A 75 e) mm4 = some (bo, m) → sf_291 (sq_279 (g + 3 + 2)) (Int32.ofNat e) mm = if bo = true then sf_291_223 (sq_279 (g + 3 + 2)) (Int32.ofNat e) (sh_b2 ac) (ac && !cb) m else some (false, m) := by
    intro bo m hb
    have e75 : ∀ (T : List sh_Tg) (J : Nat → Nat → Int64) (s : Nat) (a b : Int32), sh_X.I (T, sh_u2 (sh_u2 mm3.I 66 41 a) 66 56 b, J, s) 75 e = A 75 e := fun T J s a b => by
      rw [se_Ic (by omega), sh_u2_cell (by omega), m3.aa 75 (by omega) (by omega)]
    have e190 : ∀ x4 y1, y1 = (ac && cb) → sf_291_190 (sq_279 (g + 3 + 2)) (Int32.ofNat e) cb x4 y1 (mm3.T, sh_u2 (sh_u2 mm3.I 66 41 (Int32.ofNat tp)) 66 56 (Int32.ofNat (ifs + 1)), mm3.J, mm3.s) = if bo = true then (if x4 = 0 then sf_291_222 (sq_279 (g + 3 + 2)) (Int32.ofNat e) x4 m else (if cb = true then sf_291_222 (sq_279 (g + 3 + 2)) (Int32.ofNat e) x4 m else sf_291_223 (sq_279 (g + 3 + 2)) (Int32.ofNat e) x4 true m)) else some (false, m) := by
      intro x4 y1 hy
      unfold sf_291_190
      rw [if_pos oe, sh_nIc (by omega), e75, hy]
      show (sh_bn (sf_320 (sq_279 (g + 4)) (A 75 e) (mm3.T, sh_u2 (sh_u2 (sh_u2 mm3.I 66 41 (Int32.ofNat tp)) 66 56 (Int32.ofNat (ifs + 1))) 66 57 (sh_b2 (ac && cb)), mm3.J, mm3.s)) _) = _
      rw [hm4, hb, sh_bn_some]
    rw [md1]
    unfold sf_291_153
    rw [m3.mac, m3.mif, sh_nI1]
    unfold sf_291_189
    cases bo with
    | false =>
      cases ac with
      | false =>
        rw [if_pos (by decide), e190 _ _ (by rfl)]
        rfl
      | true =>
        rw [if_neg (by decide)]
        cases cb with
        | true => rw [if_pos rfl, e190 _ _ (by rfl)]; rfl
        | false => rw [if_neg (by decide), e190 _ _ (by rfl)]; rfl
    | true =>
      cases ac with
      | false =>
        rw [if_pos (by decide), e190 _ _ (by rfl), if_pos rfl, if_pos (by decide), if_pos rfl]
        rfl
      | true =>
        rw [if_neg (by decide)]
        cases cb with
        | true => rw [if_pos rfl, e190 _ _ (by rfl), if_pos rfl, if_neg (by decide), if_pos rfl, if_pos rfl]; rfl
        | false => rw [if_neg (by decide), e190 _ _ (by rfl), if_pos rfl, if_neg (by decide), if_neg (by decide), if_pos rfl]; rfl
  -- the first block
  have bd4 : ∀ lx, len1 + lx + 1 ≤ len → ∀ n' (G : sh_gL) uu ss, n' + 50 * (3000 - ss) ≤ n + 50 * (3000 - sp) → G.length + 14 * (3000 - ss) ≤ 60000 → 4 * uu + 5 * (3000 - ss) ≤ 32000 → ss ≤ 3000 → d + 1 ≤ 40 → se_Bd P pf F n' G.length uu z q (fr + 3) cl ss cd kn tp li un g (d + 1) lx (bb + len1 + 1) sg := by
    intro lx hlx n' G uu ss h1 h2 h3 h4 h5
    exact se_Bd.mk (by omega) (by omega) (by omega) (by omega) (by omega) (by omega) (by omega) h2 h3 (by omega) (by omega) (by omega) h4 (by omega) h5 (by omega)
  rcases HT.run (n := n2 + 1) (dq := g) (bb := bb + len1 + 1) (sg := sg) h.tx i3 m4 J4 (by rw [i5, se_nxA]) w4 (bd4 lenT hl _ _ _ _ (by omega) (by omega) (by omega) i17) (by omega) (by omega) i17 lB h.c10 h.c6 (by omega) h.hin with bad | ⟨e4, n4, mc4, mm5, u4, sp4, tp4, q4, A1, A2, S4⟩
  · left
    obtain ⟨kk, tt, x', y, q1, q2, q3, q4, q5⟩ := bad
    refine ⟨kk, tt, x', se_rs q tp y, q1, by rw [cl2, q2], F3.thenW q3, ?_, (G4.U.trans q5).trans (se_rsG (tq := 0) (qq := 0) (uu := 0) (ll := 0)).U⟩
    rw [md2 _ _ (se_320 m4.mq m4.mtp q4), if_neg (by decide), se_mftrs]
  have y1 := S4.lq
  have y2 := S4.q4
  have y3 := S4.lu
  have y4 := S4.lsp
  have y5 := S4.sp3
  have y6 := S4.t16
  have y7 := S4.n5
  have y8 := S4.g14
  have y9 := S4.u5
  have md3 := md2 _ _ (se_320 m4.mq m4.mtp A2)
  rw [if_pos rfl] at md3
  obtain ⟨R1, R2, R3, R4, R5⟩ := se_rest J4 S4 (L _) (by omega) (by omega) (fun i hi => ⟨rfl, rfl⟩)
  have R5 := R5 (Or.inr (by omega))
  -- the model before the second block
  obtain ⟨mm6, hm6⟩ : ∃ mm6 : sh_X, ((se_rs q tp mm5).T, sh_u2 (se_rs q tp mm5).I 66 57 (sh_b2 (ac && !cb)), (se_rs q tp mm5).J, (se_rs q tp mm5).s) = mm6 := ⟨_, rfl⟩
  have m6 : se_m N K P V A q B sp4 (ifs + 1) cd kn inn tp li (ac && !cb) mm6 := by
    rw [← hm6]
    exact R1.w57 (y := ac && !cb) (fun r => by omega)
  have G56 : ∀ {tq qq uu ll : Nat}, se_G0 tq qq uu ll (se_rs q tp mm5) mm6 := fun {tq qq uu ll} => by
    rw [← hm6]
    exact se_G0.wF (f := 57) (x := sh_b2 (ac && !cb)) (by omega)
  have w6 : mm6.I 66 73 = Int32.ofNat un := by rw [← hm6, se_In (by omega)]; exact R4
  have N6 : se_No mc mc4 mm mm6 := ((se_No.of F3 G4).trans R5).trans (se_No.of (se_F.refl (u := 0) (z := 0) (q := 0) (fr := 0) (cl := 0) mc4) (G56 (tq := 0) (qq := 0) (uu := 0) (ll := 0)))
  have G6 : se_G2 M q un li mm mm6 := ((G4.less (tp := M) (q := q) (un := un) (li := li) h.hJ.lM (L _) (L _) (L _)).G2.trans R3 (L _) (L _) (L _) (L _)).trans G56.G2 (L _) (L _) (L _) (L _)
  have J6 : se_J N K V p (e4 ++ ((e3 ++ e1) ++ gs)) u4 q B M tp cw2 (ac && cb) mc4 mm6 := R2.keep0 (e := []) (z := 0) (fr := 0) (cl := 0) (un := 0) (li := 0) (se_F.refl mc4) (G56 (tq := tp) (qq := q) (uu := 0) (ll := 0)) (L _) (L _)
  have fr0 : mc4.I 42 fr = Int32.ofNat x := (S4.hF.fr_ fr (by omega)).trans i6
  have fr1 : mc4.I 42 (fr + 1) = Int32.ofNat cw := (S4.hF.fr_ (fr + 1) (by omega)).trans i7
  have fr2 : mc4.I 42 (fr + 2) = Int32.ofNat q := (S4.hF.fr_ (fr + 2) (by omega)).trans i8
  have cl3 : sf_78_10 (Int32.ofNat n) mc = sf_78_10 (Int32.ofNat n4) mc4 := by rw [cl2, A1]
  have F4 : se_F2 u z B fr cl mc mc4 := (F3.F2.less (u := u) (z := z) (q := B) (fr := fr) (cl := cl) (L _) (L _) lB (L _) (L _)).trans S4.hF (by omega) (L _) (L _) (by omega) (L _)
  have NQ4 : ∀ y, y < q → mc4.I 54 y = mc.I 54 y ∧ mc4.I 55 y = mc.I 55 y ∧ mc4.J 57 y = mc.J 57 y := fun y hy => by
    have b1 := S4.nq y hy
    have b2 := F3.na y hy
    exact ⟨b1.1.trans b2.1, b1.2.1.trans b2.2.1, b1.2.2.trans b2.2.2.2⟩
  have md4 : ∀ bo m, sf_320 (sq_279 (g + 4)) (A 76 e) mm6 = some (bo, m) → sf_291 (sq_279 (g + 3 + 2)) (Int32.ofNat e) mm = if bo = true then some (true, (m.T, sh_u2 (sh_u2 m.I 66 57 (sh_b2 ac)) 66 56 ((m.I 66 56) - 1), m.J, m.s)) else some (false, m) := by
    intro bo m hb
    rw [md3]
    unfold sf_291_223
    rw [if_pos oe, sh_nIc (by omega), R1.aa 76 (by omega) (by omega), hm6]
    show (sh_bn (sf_320 (sq_279 (g + 4)) (A 76 e) mm6) _) = _
    rw [hb, sh_bn_some]
    cases bo with
    | false => rfl
    | true => rw [if_pos rfl, if_pos rfl, if_pos (by cases ac <;> decide)]
  have xl4 : x < (e4 ++ ((e3 ++ e1) ++ gs)).length := by rw [List.length_append]; omega
  have cl4 : cw < (e4 ++ ((e3 ++ e1) ++ gs)).length := by
    have := h.hJ.lcw
    rw [List.length_append, List.length_append]; omega
  -- the class comes to its END
  have claim : se_bad N P mc mm (sf_78_10 (Int32.ofNat n) mc) (sf_291 (sq_279 (g + 3 + 2)) (Int32.ofNat e) mm) ∨ ∃ e7 n7 mc7 mm7 u7 sp7 q7 cw7, sf_78_10 (Int32.ofNat n) mc = sf_78_10 (Int32.ofNat n7) mc7 ∧ sf_320 (sq_279 (g + 4)) (A 76 e) mm6 = some (true, se_rs q tp mm7) ∧ mc7.I 41 13 = Int32.ofNat (j - 1) ∧ se_c N K P V C (e7 ++ (e4 ++ ((e3 ++ e1) ++ gs))) u7 z q7 B (fr + 3) cl sp7 cw7 (ifs + 1) cd kn mc7 ∧ se_F2 u4 z B (fr + 3) cl mc4 mc7 ∧ (∀ y, y < q → mc7.I 54 y = mc4.I 54 y ∧ mc7.I 55 y = mc4.I 55 y ∧ mc7.J 57 y = mc4.J 57 y) ∧ se_m N K P V A q B sp7 (ifs + 1) cd kn inn tp li (ac && !cb) (se_rs q tp mm7) ∧ (∃ cwx, se_J N K V p (e7 ++ (e4 ++ ((e3 ++ e1) ++ gs))) u7 q B M tp cw7 cwx mc7 (se_rs q tp mm7)) ∧ se_G2 M q un li mm6 (se_rs q tp mm7) ∧ (se_rs q tp mm7).I 66 73 = Int32.ofNat un ∧ se_No mc4 mc7 mm6 (se_rs q tp mm7) ∧ q ≤ q7 ∧ q7 ≤ 4000 ∧ u4 ≤ u7 ∧ sp4 ≤ sp7 ∧ sp7 ≤ 3000 ∧ n7 + 50 * (3000 - sp7) ≤ n4 + 1 + 50 * (3000 - sp4) ∧ (e7 ++ (e4 ++ ((e3 ++ e1) ++ gs))).length + 14 * (3000 - sp7) ≤ (e4 ++ ((e3 ++ e1) ++ gs)).length + 14 * (3000 - sp4) + 2 ∧ 4 * u7 + 5 * (3000 - sp7) ≤ 4 * u4 + 5 * (3000 - sp4) := by
    rcases HE with ⟨rfl, h76⟩ | ⟨hl1, c8, HE⟩
    · right
      refine ⟨[], n4, mc4, mm6, u4, sp4, q4, cw2, cl3, ?_, S4.at_, S4.hc, se_F2.refl _, fun _ _ => ⟨rfl, rfl, rfl⟩, m6.rs, ⟨_, J6.keep0 (e := []) (z := 0) (fr := 0) (cl := 0) (un := 0) (li := 0) (se_F.refl mc4) se_rsG (L _) (L _)⟩, se_rsG.G2, (se_rsF (by omega) (by omega)).trans w6, se_No.of (se_F.refl (u := 0) (z := 0) (q := 0) (fr := 0) (cl := 0) mc4) (se_rsG (tq := 0) (qq := 0) (uu := 0) (ll := 0)), y1, by omega, L _, L _, y5, by omega, by show (e4 ++ ((e3 ++ e1) ++ gs)).length + _ ≤ _; omega, L _⟩
      rw [h76]
      refine se_320 m6.mq m6.mtp ?_
      unfold sf_290 sf_290_2
      exact sh_wend (f := fun q => sf_290_2s (sq_279 (g + 3)) q.1 q.2) (by
        show sf_290_2s (sq_279 (g + 3)) (-1) mm6 = _
        unfold sf_290_2s
        rw [if_pos (by decide)])
    · have at8 := S4.hc.at (n := n4) (by omega) S4.at_ h.c10 (by omega) h.c6 c8 rfl rfl
      have c5 := S4.hc.nx (i := l + 1)
      obtain ⟨e5, cw5, mc5, t1, t2, t3, t4, t5, t6, t7, t8⟩ := se_144 (p := p) (x := x) (q0 := q) (cw0 := cw) c5 y1 (by omega) (by omega) (by rw [se_nxI (by omega)]; exact fr0) (by rw [se_nxI (by omega)]; exact fr1) (by rw [se_nxI (by omega)]; exact fr2) xl4 cl4 (by omega)
      have cl5 : sf_78_10 (Int32.ofNat n) mc = sf_78_10 (Int32.ofNat (n4 + 1)) mc5 := by
        rw [cl3, se_a8 at8, t1]
        rfl
      have F45 : ∀ {z q fr cl : Nat}, se_F u4 z q fr cl mc4 mc5 := fun {z q fr cl} => (se_nxFr (u := u4) (z := z) (q := q) (fr := fr) (cl := cl)).trans t4 (L _) (L _) (L _) (L _) (L _)
      have va5 : sh_va p (e5 ++ (e4 ++ ((e3 ++ e1) ++ gs))) cw5 = (ac && !cb) := by
        rw [t8, (sh_keep1 (e := e4) i9 (fun _ => rfl)).2 p, i10, acv, (sh_keep1 (e := e4) (sh_keep1 (e := e3 ++ e1) h.hJ.lcw (fun _ => rfl)).1 (fun _ => rfl)).2 p]
      have J5 : se_J N K V p (e5 ++ (e4 ++ ((e3 ++ e1) ++ gs))) u4 q B M tp cw5 (ac && !cb) mc5 mm6 := (J6.keep0 (e := e5) (z := 0) (fr := 0) (cl := 0) (un := 0) (li := 0) F45 (se_G0.refl mm6) (L _) (L _)).cond va5.symm t7
      have l5 : (e5 ++ (e4 ++ ((e3 ++ e1) ++ gs))).length = e5.length + (e4 ++ ((e3 ++ e1) ++ gs)).length := List.length_append
      rcases HE.run (n := n4 + 1) (dq := g) (bb := bb + len1 + 1) (sg := sg) h.tx t3 m6 J5 (by rw [t5, se_nxA]) w6 (bd4 lenE hl2 _ _ _ _ (by omega) (by omega) (by omega) y5) (by omega) (by omega) y5 lB h.c10 h.c6 (by omega) h.hin with bad | ⟨e7, n7, mc7, mm7, u7, sp7, tp7, q7, B1, B2, S7⟩
      · left
        obtain ⟨kk, tt, x', y, q1, q2, q3, q4, q5⟩ := bad
        refine ⟨kk, tt, x', se_rs q tp y, q1, by rw [cl5, q2], F4.thenW ((F45 (z := 0) (q := 0) (fr := 0) (cl := 0)).thenW q3), ?_, (G6.U.trans q5).trans (se_rsG (tq := 0) (qq := 0) (uu := 0) (ll := 0)).U⟩
        rw [md4 _ _ (se_320 m6.mq m6.mtp q4), if_neg (by decide), se_mftrs]
      · right
        have z1 := S7.lq
        have z2 := S7.q4
        have z3 := S7.lu
        have z4 := S7.lsp
        have z5 := S7.sp3
        have z6 := S7.t16
        have z7 := S7.n5
        have z8 := S7.g14
        have z9 := S7.u5
        obtain ⟨Q1, Q2, Q3, Q4, Q5⟩ := se_rest J5 S7 (L _) (by omega) (by omega) (fun i hi => ⟨rfl, rfl⟩)
        have ee : e7 ++ (e5 ++ (e4 ++ ((e3 ++ e1) ++ gs))) = (e7 ++ e5) ++ (e4 ++ ((e3 ++ e1) ++ gs)) := by rw [List.append_assoc e7 e5]
        have hc7 := S7.hc
        rw [ee] at hc7 Q2 z8
        refine ⟨e7 ++ e5, n7, mc7, mm7, u7, sp7, q7, cw5, by rw [cl5, B1], se_320 m6.mq m6.mtp B2, S7.at_, hc7, (F45 (z := z) (q := B) (fr := fr + 3) (cl := cl)).F2.trans S7.hF (L _) (L _) (L _) (L _) (L _), fun y hy => ?_, Q1, ⟨_, Q2⟩, Q3, Q4, (se_No.of (F45 (z := 0) (q := 0) (fr := 0) (cl := 0)) (se_G0.refl (tp := 0) (q := 0) (un := 0) (li := 0) mm6)).trans (Q5 (Or.inr (by omega))), z1, by omega, z3, z4, z5, by omega, by omega, by omega⟩
        have b1 := S7.nq y hy
        have b2 := (F45 (z := 0) (q := q) (fr := 0) (cl := 0)).na y hy
        exact ⟨b1.1.trans b2.1, b1.2.1.trans b2.2.1, b1.2.2.trans b2.2.2.2⟩
  rcases claim with bad | ⟨e7, n7, mc7, mm7, u7, sp7, q7, cw7, C1, C2, C3, C4, C5, C6, C7, ⟨cwx, C8⟩, C9, C10, C11, C12, C13, C14, C15, C16, C17, C18, C19⟩
  · exact Or.inl bad
  right
  have at9 := C4.at (n := n7) (by omega) C3 h.c10 (by omega) h.c6 c9 rfl rfl
  have c8 := C4.nx (i := j - 1 + 1)
  have g1 : mc7.I 42 (fr + 1) = Int32.ofNat cw := (C5.fr_ (fr + 1) (by omega)).trans fr1
  have g2 : mc7.I 42 (fr + 2) = Int32.ofNat q := (C5.fr_ (fr + 2) (by omega)).trans fr2
  obtain ⟨mc8, T1, T2, T3, T4⟩ := se_147 (q0 := q) (cw0 := cw) c8 C12 (by omega) (by omega) (by rw [se_nxI (by omega)]; exact g1) (by rw [se_nxI (by omega)]; exact g2)
  have F78 : ∀ {u z q fr cl : Nat}, se_F u z q fr cl mc7 mc8 := fun {u z q fr cl} => (se_nxFr (u := u) (z := z) (q := q) (fr := fr) (cl := cl)).trans T3 (L _) (L _) (L _) (L _) (L _)
  have md5 := md4 _ _ C2
  rw [if_pos rfl, C7.mif, se_um1] at md5
  obtain ⟨mm8, hm8⟩ : ∃ mm8 : sh_X, ((se_rs q tp mm7).T, sh_u2 (sh_u2 (se_rs q tp mm7).I 66 57 (sh_b2 ac)) 66 56 (Int32.ofNat ifs), (se_rs q tp mm7).J, (se_rs q tp mm7).s) = mm8 := ⟨_, rfl⟩
  rw [hm8] at md5
  have m8 : se_m N K P V A q B sp7 ifs cd kn inn tp li ac mm8 := by
    rw [← hm8]
    exact (C7.w57 (y := ac) (fun r => by omega)).w56 (y := ifs) h.hm.ia
  have G78 : ∀ {tq qq uu ll : Nat}, se_G0 tq qq uu ll (se_rs q tp mm7) mm8 := fun {tq qq uu ll} => by
    rw [← hm8]
    exact (se_G0.wF (f := 57) (x := sh_b2 ac) (by omega)).trans (se_G0.wF (f := 56) (x := Int32.ofNat ifs) (by omega)) (L _) (L _) (L _) (L _)
  have ee : e7 ++ (e4 ++ ((e3 ++ e1) ++ gs)) = (e7 ++ e4 ++ e3 ++ e1) ++ gs := by rw [← List.append_assoc, ← List.append_assoc, ← List.append_assoc]
  rw [ee] at T2 C8 C18
  have J8 : se_J N K V p ((e7 ++ e4 ++ e3 ++ e1) ++ gs) u7 q B M tp cw ac mc8 mm8 := (C8.keep0 (e := []) (z := 0) (fr := 0) (cl := 0) (un := 0) (li := 0) F78 (G78 (tq := tp) (qq := q) (uu := 0) (ll := 0)) (L _) (L _)).cond (by show ac = sh_va p ((e7 ++ e4 ++ e3 ++ e1) ++ gs) cw; rw [(sh_keep1 (e := e7 ++ e4 ++ e3 ++ e1) h.hJ.lcw (fun _ => rfl)).2 p]; exact h.hJ.ac_) (sh_keep1 (e := e7 ++ e4 ++ e3 ++ e1) h.hJ.lcw (fun _ => rfl)).1
  refine ⟨e7 ++ e4 ++ e3 ++ e1, n7 + 1, mc8, mm8, u7, sp7, tp, q, by rw [C1, se_a9 at9, T1]; rfl, md5, se_So.mk ?_ T2 m8 J8 ?_ (fun y hy => ?_) ((G6.trans C9 (L _) (L _) (L _) (L _)).trans G78.G2 (L _) (L _) (L _) (L _)) (fun _ => (N6.trans C11).trans (se_No.of (F78 (u := 0) (z := 0) (q := 0) (fr := 0) (cl := 0)) (G78 (tq := 0) (qq := 0) (uu := 0) (ll := 0)))) ?_ (L _) (by omega) (by omega) (by omega) C16 (by omega) (by omega) (by omega) (by omega)⟩
  · rw [T4, se_nxA]
    congr 1
    omega
  · exact (F4.trans C5 (by omega) (L _) (L _) (by omega) (L _)).trans (F78 (u := u) (z := z) (q := B) (fr := fr) (cl := cl)).F2 (L _) (L _) (L _) (L _) (L _)
  · have b0 := NQ4 y hy
    have b1 := C6 y hy
    have b2 := (F78 (u := 0) (z := 0) (q := q) (fr := 0) (cl := 0)).na y hy
    exact ⟨b2.1.trans (b1.1.trans b0.1), b2.2.1.trans (b1.2.1.trans b0.2.1), b2.2.2.2.trans (b1.2.2.trans b0.2.2)⟩
  · rw [← hm8, se_In (by omega), sh_u2_idx (by omega)]
    exact C10
end
