/-! EVALUATION: for -/
theorem se_u2s {I : Nat → Nat → Int32} {a i : Nat} {x : Int32} (h : I a i = x) : sh_u2 I a i x = I := by
  funext b j
  unfold sh_u2
  by_cases h1 : b = a
  · subst h1
    rw [if_pos rfl]
    by_cases h2 : j = i
    · subst h2
      rw [if_pos rfl, h]
    · rw [if_neg h2]
  · rw [if_neg h1]
section
variable {N : Nat} {K : Nat → Int32} {P V : Nat → Nat} {A C : Nat → Nat → Int32} {p : Nat → Bool} {pf : Nat → Nat} {F c2 un e i j n len d bb sg dq : Nat} {gs : sh_gL} {u z q B M fr cl sp cw ifs cd kn inn tp li : Nat} {ac : Bool} {mc mm : sh_X}
theorem se_f1 {w i2 : Nat} {v : Int64} (tx : sh_Txt N K P V) (hc : se_c N K P V C gs u z q B fr cl sp cw ifs cd kn mc) (hw : sh_We N K P V mm) (h42 : mm.I 66 42 = Int32.ofNat sp) (hq : q < 1024) (sp3 : sp ≤ 3000) (hN : w ≤ N) (k1 : K w = 1) (hat : mc.I 41 13 = Int32.ofNat i2) :
    se_go n (sh_bt (sf_150 (Int32.ofNat w) v mc) (fun m => (none, m)) fun _ m => some (some (), m)) = se_fgo n i2 (sf_150 (Int32.ofNat w) v mc) := by
  have N4 := tx.N4
  unfold se_fgo
  rcases se_pay (x := 1) (i := w) N4 hc hw h42 hN (by omega) sp3 with bad | ⟨p1, p2, p3⟩
  · obtain ⟨kk, tt, y, y2, r1, r2, r3, r4, r5⟩ := bad
    have e : sf_150 (Int32.ofNat w) v mc = some (none, sh_flt kk (Int32.ofNat (P tt)) y) := by
      unfold sf_150
      rw [show (1 : Int32) = Int32.ofNat 1 from rfl, r2]
      rfl
    rw [e]
    rfl
  · have ca := hc.wsp (sp2 := sp + 1)
    obtain ⟨mb, b1, b2, b3, b4, b5, b6, b7, b8, b9⟩ := se_105 ca hq (Int32.ofNat (V w)) 0 0 v
    have e : sf_150 (Int32.ofNat w) v mc = some (some (), mb) := by
      unfold sf_150
      rw [show (1 : Int32) = Int32.ofNat 1 from rfl, p2]
      show (sh_bc (sf_83 (Int32.ofNat w) _) _) = _
      rw [sh_83 tx ca.wc hN k1, sh_bc_some, b1, sh_bn_some]
    have e13 : mb.I 41 13 = Int32.ofNat i2 := by rw [b8, se_In (by omega)]; exact hat
    rw [e]
    show sf_78_10 (Int32.ofNat (n + 1)) mb = sf_78_10 (Int32.ofNat (n + 1)) (mb.T, sh_u2 mb.I 41 13 (Int32.ofNat i2), mb.J, mb.s)
    rw [se_u2s e13]
theorem se_for {p0 lenB : Nat} (HB : se_LB N K P V A C p pf F c2 kn (A 74 e) (i + 2) (j - 1) (d + 1) lenB) (h : se_Ps N K P V A C p pf F c2 un i n len d bb sg dq gs u z q B M fr cl sp cw ifs cd kn inn tp li ac mc mm) (hij : i + 2 ≤ j - 1) (hj : j ≤ c2) (he : e < 9000) (h72 : A 72 e = 23) (h73 : A 73 e = Int32.ofNat p0) (h75 : A 75 e = Int32.ofNat (p0 + 1)) (h76 : A 76 e = Int32.ofNat (p0 + 3)) (k1 : K (p0 + 1) = 1) (k3 : K (p0 + 3) = 2) (k5 : K (p0 + 5) = 2) (hp : p0 + 5 ≤ N) (hl : lenB + 7 ≤ len)
    (c0 : C 36 i = 0) (w0 : C 37 i = Int32.ofNat p0) (cA : C 36 (i + 1) = 10) (wA : C 37 (i + 1) = Int32.ofNat (p0 + 1)) (xA : C 38 (i + 1) = Int32.ofNat j) (c11 : C 36 (j - 1) = 11) (w11 : C 37 (j - 1) = Int32.ofNat (p0 + 1)) (x11 : C 38 (j - 1) = Int32.ofNat (i + 1)) :
    se_bad N P mc mm (sf_78_10 (Int32.ofNat n) mc) (sf_291 (sq_279 (dq + 2)) (Int32.ofNat e) mm) ∨
    ∃ e' n2 mc2 mm2 u2 sp2 tp2 q2, sf_78_10 (Int32.ofNat n) mc = sf_78_10 (Int32.ofNat n2) mc2 ∧ sf_291 (sq_279 (dq + 2)) (Int32.ofNat e) mm = some (true, mm2) ∧ se_So N K P V A C p F un j n len bb gs u z q B M fr cl sp cw ifs cd kn inn li ac mc mm e' n2 mc2 mm2 u2 sp2 tp2 q2 := by
  have N4 := h.tx.N4
  have L := fun (x : Nat) => Nat.le_refl x
  have bz := h.bd.z2
  have bl := h.bd.l2
  have bq := h.bd.q4
  have bt := h.bd.t16
  have b4 := h.bd.bb4
  have bun := h.bd.un4
  have bn := h.bd.n5
  have bu := h.bd.u5
  have bg := h.bd.g14
  have bf := h.bd.f4
  have bc := h.bd.c1
  have bdq := h.bd.dq_
  have bcd := h.bd.cd2
  have bd40 := h.bd.d40
  have bkF := h.bd.kF
  have ifb := h.ifb
  have lB := h.lB
  obtain ⟨g, rfl⟩ : ∃ g, dq = g + 3 := ⟨dq - 3, by omega⟩
  have oe : sh_okb (Int32.ofNat e) 9000 = true := sh_okn' he (by omega)
  have e291 : ∀ b m1, sf_292 1 (mm.I 73 e) mm = some (b, m1) → (b = true → m1.I 72 e = 23) → sf_291 (sq_279 (g + 3 + 2)) (Int32.ofNat e) mm = if b = true then sf_321 (sq_279 (g + 4)) (Int32.ofNat e) m1 else some (false, m1) := by
    intro b m1 hb hk
    unfold sf_291
    rw [if_pos oe, sh_nIc (by omega), hb, sh_bn_some]
    cases b with
    | false => rfl
    | true =>
      rw [if_pos rfl, if_pos rfl, if_pos oe, hk rfl, if_neg (by decide), if_neg (by decide), if_neg (by decide), if_pos rfl]
      show (sh_bn (sf_321 (sq_279 (g + 4)) (Int32.ofNat e) m1) fun r2 m12 => some (r2, m12)) = _
      cases sf_321 (sq_279 (g + 4)) (Int32.ofNat e) m1 with
      | none => rfl
      | some w => rfl
  rcases se_s0 (e := e) h (by omega) c0 w0 (by omega) he h73 with bad | ⟨mc1, mm1, s1, s2, s3, s4, s5, s6, s7, s8, s9⟩
  · left
    obtain ⟨kk, tt, x, y, r1, r2, r3, r4, r5⟩ := bad
    refine ⟨kk, tt, x, y, r1, r2, r3, ?_, r5⟩
    rw [e291 _ _ r4 (fun r => by cases r)]
    rfl
  have md1 : sf_291 (sq_279 (g + 3 + 2)) (Int32.ofNat e) mm = sf_321 (sq_279 (g + 4)) (Int32.ofNat e) mm1 := by
    rw [e291 _ _ s2 (fun _ => by rw [s6.aa 72 (by omega) (by omega)]; exact h72), if_pos rfl]
  have G1 : ∀ {tq qq uu ll : Nat}, se_G tq qq uu ll mm mm1 := fun {tq qq uu ll} => se_G.R s8
  have at1 := s5.at (n := n + 1) (by omega) s4 h.c10 (by omega) h.c6 cA wA xA
  have c1 := s5.nx (i := i + 1 + 1)
  have F1 : ∀ {u z q fr cl : Nat}, se_F u z q fr cl mc (se_nx (i + 1 + 1) mc1) := fun {u z q fr cl} => s7.trans (se_nxFr (u := u) (z := z) (q := q) (fr := fr) (cl := cl)) (L _) (L _) (L _) (L _) (L _)
  have J1 : se_J N K V p gs u q B M tp cw ac (se_nx (i + 1 + 1) mc1) mm1 := h.hJ.keep (e := []) (F1 (u := u) (z := z) (q := q) (fr := fr) (cl := cl)) (G1 (tq := tp) (qq := q) (uu := un) (ll := li)) (L _) (L _)
  have n83 := sh_83 h.tx c1.wc (show p0 + 1 ≤ N by omega) k1
  have m75 : mm1.I 75 e = Int32.ofNat (p0 + 1) := (congrFun (s6.aa 75 (by omega) (by omega)) e).trans h75
  have m76 : mm1.I 76 e = Int32.ofNat (p0 + 3) := (congrFun (s6.aa 76 (by omega) (by omega)) e).trans h76
  have ot : sh_okb (Int32.ofNat (p0 + 1)) 4002 = true := sh_okn' (by omega) (by omega)
  have m69 : mm1.I 69 (p0 + 1) = Int32.ofNat (P (p0 + 1)) := s6.we.at (by omega)
  have v3b := h.tx.V2 (p0 + 3) (by omega) k3
  have v5b := h.tx.V2 (p0 + 5) (by omega) k5
  have e10 : sf_78_10 (Int32.ofNat n) mc = se_go (n + 1) (sf_149 (Int32.ofNat (p0 + 1)) (Int32.ofNat j) (se_nx (i + 1 + 1) mc1)) := by rw [s1, se_a10 at1]
  rcases se_find h.tx c1 s6 J1 h.lB (by omega) (show p0 + 1 ≤ N by omega) k1 with ⟨ix, i1, i2, i3, i4⟩ | ⟨i3, i4⟩
  · -- the name is there
    left
    refine ⟨3, p0 + 1, se_nx (i + 1 + 1) mc1, mm1, by omega, ?_, F1 (u := 0) (z := 0) (q := 0) (fr := 0) (cl := 0) |>.W c1.rs, ?_, s8.U⟩
    · rw [e10]
      unfold sf_149
      rw [n83, sh_bc_some, i3, sh_bc_some, if_neg (se_ne1 (by omega)), se_fail N4 c1 (by omega)]
      rfl
    · rw [md1]
      unfold sf_321
      rw [if_pos oe, sh_nIc (by omega), m75, i4, sh_bc_some, if_neg (sh_nI0 (by omega)), if_pos ot, sh_nIc (by omega), m69, sh_252, sh_bn_some]
  have e28 : sf_78_10 (Int32.ofNat n) mc = se_go (n + 1) (if 256 < (Int64.ofNat (V (p0 + 5)) - Int64.ofNat (V (p0 + 3))) then some (none, sh_flt 4 (Int32.ofNat (P (p0 + 1))) (se_nx (i + 1 + 1) mc1)) else sf_149_71 (Int32.ofNat (p0 + 1)) (Int32.ofNat j) (Int64.ofNat (V (p0 + 3))) (Int64.ofNat (V (p0 + 5))) (se_nx (i + 1 + 1) mc1)) := by
    rw [e10]
    unfold sf_149 sf_149_28
    rw [n83, sh_bc_some, i3, sh_bc_some, if_pos rfl, show (2 : Int32) = Int32.ofNat 2 from rfl, show (4 : Int32) = Int32.ofNat 4 from rfl, sh_nIadd, sh_nIadd, sh_66 c1.wc N4 (show p0 + 1 + 2 ≤ N by omega) (Or.inr (Or.inl k3)), sh_66 c1.wc N4 (show p0 + 1 + 4 ≤ N by omega) (Or.inr (Or.inl k5)), sh_bc_some, sh_bc_some, show Int32.ofNat 4 = (4 : Int32) from rfl, se_fail N4 c1 (by omega)]
    rfl
  have md2 : sf_291 (sq_279 (g + 3 + 2)) (Int32.ofNat e) mm = if 256 < (Int64.ofNat (V (p0 + 5)) - Int64.ofNat (V (p0 + 3))) then some (false, sh_mft 4 (Int32.ofNat (P (p0 + 1))) mm1) else sf_321_78 (sq_279 (g + 4)) (Int32.ofNat e) (Int32.ofNat (p0 + 1)) (Int64.ofNat (V (p0 + 5))) (Int64.ofNat (V (p0 + 3))) mm1 := by
    rw [md1]
    unfold sf_321
    rw [if_pos oe, sh_nIc (by omega), m75, i4, sh_bc_some, if_pos (by decide), if_pos oe, m76, s6.we.nu (show p0 + 3 ≤ N by omega) k3, sh_bc_some, if_pos oe, show (2 : Int32) = Int32.ofNat 2 from rfl, sh_nIadd, s6.we.nu (show p0 + 3 + 2 ≤ N by omega) k5, sh_bc_some, if_pos ot, sh_nIc (by omega), m69, sh_252]
    rfl
  by_cases h256 : 256 < (Int64.ofNat (V (p0 + 5)) - Int64.ofNat (V (p0 + 3)))
  · left
    rw [if_pos h256] at e28 md2
    exact ⟨4, p0 + 1, se_nx (i + 1 + 1) mc1, mm1, by omega, by rw [e28]; rfl, F1 (u := 0) (z := 0) (q := 0) (fr := 0) (cl := 0) |>.W c1.rs, md2, s8.U⟩
  rw [if_neg h256] at e28 md2
  have lt0 : Int64.ofNat (V (p0 + 3)) < Int64.ofNat (V (p0 + 5)) ↔ V (p0 + 3) < V (p0 + 5) := by rw [Int64.lt_iff_toInt_lt, se_i64 (by omega), se_i64 (by omega)]; omega
  have mend : ∀ x m, ¬ x < V (p0 + 5) → x < 2000000000000000000 → sf_321_78 (sq_279 (g + 4)) (Int32.ofNat e) (Int32.ofNat (p0 + 1)) (Int64.ofNat (V (p0 + 5))) (Int64.ofNat x) m = some (true, m) := by
    intro x m hx hx2
    unfold sf_321_78
    refine sh_wend (f := fun q => sf_321_78s (sq_279 (g + 4)) (Int32.ofNat e) (Int32.ofNat (p0 + 1)) (Int64.ofNat (V (p0 + 5))) q.1 q.2) ?_
    show sf_321_78s (sq_279 (g + 4)) (Int32.ofNat e) (Int32.ofNat (p0 + 1)) (Int64.ofNat (V (p0 + 5))) (Int64.ofNat x) m = _
    unfold sf_321_78s
    rw [if_neg (fun r => hx (by rw [Int64.lt_iff_toInt_lt, se_i64 (by omega), se_i64 (by omega)] at r; omega))]
  by_cases hlt : V (p0 + 3) < V (p0 + 5)
  · -- some turns
    obtain ⟨mcb, q1, q2, q3, q4, q5⟩ := se_143 c1 (by omega) ((se_nx (i + 1 + 1) mc1).I 53 4)
    rw [c1.cq] at q4
    have cfirst : sf_78_10 (Int32.ofNat n) mc = se_fgo (n + 1) (i + 2) (sf_150 (Int32.ofNat (p0 + 1)) (Int64.ofNat (V (p0 + 3))) mcb) := by
      rw [e28]
      unfold sf_149_71
      rw [if_pos (lt0.mpr hlt), q1, sh_bn_some]
      exact se_f1 h.tx q2 s6.we s6.msp (by omega) s3 (by omega) k1 (by rw [q5, se_nxA])
    have Fb : se_F u z q fr cl mc mcb := (F1 (u := u) (z := z) (q := q) (fr := fr) (cl := cl)).trans q3 (L _) (L _) (L _) (L _) (L _)
    have Jb : se_J N K V p gs u q B M tp cw ac mcb mm1 := h.hJ.keep (e := []) Fb (G1 (tq := tp) (qq := q) (uu := un) (ll := li)) (L _) (L _)
    have loop : ∀ (r x : Nat), x < V (p0 + 5) → x + r + 1 = V (p0 + 5) → ∀ (e1 : sh_gL) (nk : Nat) (mck mmk : sh_X) (uk spk jj : Nat), sf_78_10 (Int32.ofNat n) mc = se_fgo nk (i + 2) (sf_150 (Int32.ofNat (p0 + 1)) (Int64.ofNat x) mck) → sf_291 (sq_279 (g + 3 + 2)) (Int32.ofNat e) mm = sf_321_78 (sq_279 (g + 4)) (Int32.ofNat e) (Int32.ofNat (p0 + 1)) (Int64.ofNat (V (p0 + 5))) (Int64.ofNat x) mmk → se_So N K P V A C p F un jj (n + 1) 0 bb gs u z q B M (fr + 1) cl (sp + 1) cw ifs cd kn inn li ac mcb mm1 e1 nk mck mmk uk spk tp q →
        se_bad N P mc mm (sf_78_10 (Int32.ofNat n) mc) (sf_291 (sq_279 (g + 3 + 2)) (Int32.ofNat e) mm) ∨ ∃ (e1 : sh_gL) (nk : Nat) (mck mmk : sh_X) (uk spk : Nat), sf_78_10 (Int32.ofNat n) mc = se_go nk (sh_bn (sf_148 mck) fun _ m => some (some (), m)) ∧ sf_291 (sq_279 (g + 3 + 2)) (Int32.ofNat e) mm = some (true, mmk) ∧ se_So N K P V A C p F un j (n + 1) 0 bb gs u z q B M (fr + 1) cl (sp + 1) cw ifs cd kn inn li ac mcb mm1 e1 nk mck mmk uk spk tp q := by
      intro r
      induction r with
      | zero =>
        intro x hx hr e1 nk mck mmk uk spk jj t1 t2 S
        have y1 := S.n5
        have y2 := S.g14
        have y3 := S.u5
        rcases se_iter (e := e) (g := g) (x := x) (v5 := V (p0 + 5)) (w := p0 + 1) (n := nk) (bb := bb) (sg := sg) HB h.tx S.hc S.hm S.hJ S.w73 ((S.hF.fr_ fr (by omega)).trans q4) h.lB h.c10 h.c6 (by have := S.lsp; omega) h.hin bz bt bl bq (by omega) (by omega) (by omega) (by omega) (by omega) (by omega) bc (by omega) S.sp3 bcd bd40 bkF he (by omega) k1 k5 rfl hx hij hj c11 w11 x11 with bad | ⟨e2, n2, mc2, mm2, u2, sp2, a1, a2, a3, a4⟩
        · left
          rw [t1, t2]
          exact bad.of2 ((Fb.F2.less (u := u) (z := z) (q := B) (fr := fr) (cl := cl) (L _) (L _) h.lB (L _) (L _)).trans S.hF (L _) (L _) (L _) (by omega) (L _)) (s8.U.trans S.hG.U)
        · right
          rw [if_neg (by omega)] at a1
          refine ⟨e2 ++ e1, n2, mc2, mm2, u2, sp2, by rw [t1, a1], ?_, S.trans a3⟩
          rw [t2, a2]
          exact mend _ _ (by omega) (by omega)
      | succ r ih =>
        intro x hx hr e1 nk mck mmk uk spk jj t1 t2 S
        have y1 := S.n5
        have y2 := S.g14
        have y3 := S.u5
        rcases se_iter (e := e) (g := g) (x := x) (v5 := V (p0 + 5)) (w := p0 + 1) (n := nk) (bb := bb) (sg := sg) HB h.tx S.hc S.hm S.hJ S.w73 ((S.hF.fr_ fr (by omega)).trans q4) h.lB h.c10 h.c6 (by have := S.lsp; omega) h.hin bz bt bl bq (by omega) (by omega) (by omega) (by omega) (by omega) (by omega) bc (by omega) S.sp3 bcd bd40 bkF he (by omega) k1 k5 rfl hx hij hj c11 w11 x11 with bad | ⟨e2, n2, mc2, mm2, u2, sp2, a1, a2, a3, a4⟩
        · left
          rw [t1, t2]
          exact bad.of2 ((Fb.F2.less (u := u) (z := z) (q := B) (fr := fr) (cl := cl) (L _) (L _) h.lB (L _) (L _)).trans S.hF (L _) (L _) (L _) (by omega) (L _)) (s8.U.trans S.hG.U)
        · rw [if_pos (by omega)] at a1
          exact ih (x + 1) (by omega) (by omega) (e2 ++ e1) n2 mc2 mm2 u2 sp2 j (by rw [t1, a1]) (by rw [t2, a2]) (S.trans a3)
    rcases loop (V (p0 + 5) - V (p0 + 3) - 1) (V (p0 + 3)) hlt (by omega) [] (n + 1) mcb mm1 u (sp + 1) (i + 1 + 1) cfirst md2 (se_So.refl (by rw [q5, se_nxA]) q2 s6 Jb s9 bq bt s3) with bad | ⟨e1, nk, mck, mmk, uk, spk, t1, t2, S⟩
    · exact Or.inl bad
    · right
      have y0 := S.lq
      have y1 := S.n5
      have y2 := S.g14
      have y3 := S.u5
      have y4 := S.lu
      have y5 := S.lsp
      have y6 := S.sp3
      obtain ⟨mce, v1, v2, v3, v4⟩ := se_148 S.hc (by omega)
      have v13 : mce.I 41 13 = mck.I 41 13 := by
        have v1 := v1
        unfold sf_148 sf_148_17 at v1
        rw [S.hc.cfr, if_pos ((se_0lt (by omega)).mpr (by omega)), se_um1, se_Is, if_pos (sh_okn' (by omega) (by omega))] at v1
        have e := congrArg (fun o => o.map (fun y => y.2.I 41 13)) v1
        simp only [Option.map_some] at e
        have e' := Option.some.inj e
        rw [← e', se_In (by omega)]
      refine ⟨e1, nk + 1, mce, mmk, uk, spk, tp, q, by rw [t1, v1]; rfl, t2, se_So.mk (by rw [v13]; exact S.at_) v2 S.hm (S.hJ.keep0 (e := []) (z := 0) (fr := 0) (cl := 0) (un := 0) (li := 0) v3 (se_G0.refl _) (L _) (L _)) (((Fb.F2.less (u := u) (z := z) (q := B) (fr := fr) (cl := cl) (L _) (L _) h.lB (L _) (L _)).trans S.hF (L _) (L _) (L _) (by omega) (L _)).trans v3.F2 (by omega) (L _) (L _) (L _) (L _)) (fun y hy => ?_) ((G1 (tq := M) (qq := q) (uu := un) (ll := li)).G0.G2.trans S.hG (L _) (L _) (L _) (L _)) (fun r => ((se_No.of Fb (G1 (tq := 0) (qq := 0) (uu := 0) (ll := 0)).G0).trans (S.no r)).trans (se_No.of (v3 (u := 0) (z := 0) (q := 0) (fr := 0) (cl := 0)) (se_G0.refl (tp := 0) (q := 0) (un := 0) (li := 0) _))) S.w73 (L _) (by omega) y4 (by omega) y6 (by omega) (by omega) (by omega) (by omega)⟩
      have q1 := S.nq y hy
      have q2 := Fb.na y hy
      have q3 := (v3 (u := 0) (z := 0) (q := q) (fr := 0) (cl := 0)).na y hy
      exact ⟨q3.1.trans (q1.1.trans q2.1), q3.2.1.trans (q1.2.1.trans q2.2.1), q3.2.2.2.trans (q1.2.2.trans q2.2.2.2)⟩
  · -- no turn
    right
    have cend : sf_78_10 (Int32.ofNat n) mc = sf_78_10 (Int32.ofNat (n + 1 + 1)) ((se_nx (i + 1 + 1) mc1).T, sh_u2 (se_nx (i + 1 + 1) mc1).I 41 13 (Int32.ofNat j), (se_nx (i + 1 + 1) mc1).J, (se_nx (i + 1 + 1) mc1).s) := by
      rw [e28]
      unfold sf_149_71
      rw [if_neg (fun r => hlt (lt0.mp r))]
      rfl
    have ce := c1.wI (c := 41) (i := 13) (x := Int32.ofNat j) (by omega)
    have fe : ∀ {u z q fr cl : Nat}, se_F u z q fr cl mc ((se_nx (i + 1 + 1) mc1).T, sh_u2 (se_nx (i + 1 + 1) mc1).I 41 13 (Int32.ofNat j), (se_nx (i + 1 + 1) mc1).J, (se_nx (i + 1 + 1) mc1).s) := fun {u z q fr cl} => F1.trans (se_F.wI (u := u) (z := z) (q := q) (fr := fr) (cl := cl) (by omega) (by omega) (by omega) (by omega) (by omega) (by omega)) (L _) (L _) (L _) (L _) (L _)
    refine ⟨[], n + 1 + 1, _, mm1, u, sp + 1, tp, q, cend, by rw [md2]; exact mend _ _ hlt (by omega), se_So.mk se_Is ce s6 (h.hJ.keep (e := []) (z := z) (fr := fr) (cl := cl) fe (G1 (tq := tp) (qq := q) (uu := un) (ll := li)) (L _) (L _)) fe.F2 (fun y hy => ?_) G1.G0.G2 (fun _ => se_No.of (fe (u := 0) (z := 0) (q := 0) (fr := 0) (cl := 0)) (G1 (tq := 0) (qq := 0) (uu := 0) (ll := 0)).G0) s9 (L _) (by omega) (L _) (by omega) s3 (by omega) (by omega) (by show gs.length + _ ≤ _; omega) (by omega)⟩
    have q3 := (fe (u := 0) (z := 0) (q := q) (fr := 0) (cl := 0)).na y hy
    exact ⟨q3.1, q3.2.1, q3.2.2.2⟩
end
