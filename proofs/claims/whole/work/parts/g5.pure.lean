/-! EVALUATION: statements: let -/
section
variable {N : Nat} {K : Nat → Int32} {P V : Nat → Nat} {A C : Nat → Nat → Int32} {p : Nat → Bool} {pf : Nat → Nat} {F c2 un e i j n len d bb sg dq : Nat} {gs : sh_gL} {u z q B M fr cl sp cw ifs cd kn inn tp li : Nat} {ac : Bool} {mc mm : sh_X}
/-- the room behind the price -/
theorem se_Bd.s1 {gl n2 len2 dq2 : Nat} (h : se_Bd P pf F n gl u z q fr cl sp cd kn tp li un dq d len bb sg) (hl : len2 ≤ len) (hs : sp + 1 ≤ 3000) (hn : n2 ≤ n + 50) (hq : dq ≤ dq2) : se_Bd P pf F n2 gl u z q fr cl (sp + 1) cd kn tp li un dq2 d len2 bb sg := by
  have a1 := h.bb4
  have a2 := h.un4
  have a3 := h.n5
  have a4 := h.g14
  have a5 := h.u5
  have a6 := h.dq_
  exact se_Bd.mk h.z2 h.t16 h.l2 h.q4 (by omega) (by omega) (by omega) (by omega) (by omega) h.f4 h.c1 (by omega) hs h.cd2 h.d40 h.kF
theorem se_let {a p0 len1 : Nat} (ok : se_OK N K P V A C p pf F c2 kn a (i + 1) (j - 1) d len1) (h : se_Ps N K P V A C p pf F c2 un i n len d bb sg dq gs u z q B M fr cl sp cw ifs cd kn inn tp li ac mc mm) (hij : i + 1 < j) (hj : j ≤ c2) (he : e < 9000) (ha : a < 9000) (h72 : A 72 e = 20) (h73 : A 73 e = Int32.ofNat p0) (h74 : A 74 e = Int32.ofNat a) (h75 : A 75 e = Int32.ofNat (p0 + 1)) (k1 : K (p0 + 1) = 1) (hp : p0 + 1 ≤ N) (hl : len1 + 4 ≤ len) (c0 : C 36 i = 0) (w0 : C 37 i = Int32.ofNat p0) (c2' : C 36 (j - 1) = 2) (w2 : C 37 (j - 1) = Int32.ofNat (p0 + 1)) :
    se_bad N P mc mm (sf_78_10 (Int32.ofNat n) mc) (sf_291 (sq_279 (dq + 2)) (Int32.ofNat e) mm) ∨
    ∃ e' n2 mc2 mm2 u2 sp2 tp2 q2, sf_78_10 (Int32.ofNat n) mc = sf_78_10 (Int32.ofNat n2) mc2 ∧ sf_291 (sq_279 (dq + 2)) (Int32.ofNat e) mm = some (true, mm2) ∧ se_So N K P V A C p F un j n len bb gs u z q B M fr cl sp cw ifs cd kn inn li ac mc mm e' n2 mc2 mm2 u2 sp2 tp2 q2 := by
  have N4 := h.tx.N4
  have bz := h.bd.z2
  have bq := h.bd.q4
  have bt := h.bd.t16
  have b4 := h.bd.bb4
  have bn := h.bd.n5
  have bu := h.bd.u5
  have oe : sh_okb (Int32.ofNat e) 9000 = true := sh_okn' he (by omega)
  have e291 : ∀ b m1, sf_292 1 (mm.I 73 e) mm = some (b, m1) → m1.I 72 e = A 72 e → sf_291 (sq_279 (dq + 2)) (Int32.ofNat e) mm = if b = true then sf_293 (sq_279 (dq + 1)) (Int32.ofNat e) m1 else some (false, m1) := by
    intro b m1 hb hk
    unfold sf_291
    rw [if_pos oe, sh_nIc (by omega), hb, sh_bn_some]
    cases b with
    | false => rfl
    | true =>
      rw [if_pos rfl, if_pos rfl, if_pos oe, hk, h72, if_pos rfl]
      show (sh_bn (sf_293 (sq_279 (dq + 1)) (Int32.ofNat e) m1) fun r2 m12 => some (r2, m12)) = _
      cases sf_293 (sq_279 (dq + 1)) (Int32.ofNat e) m1 with
      | none => rfl
      | some w => rfl
  rcases se_s0 (e := e) h (by omega) c0 w0 (by omega) he h73 with bad | ⟨mc1, mm1, s1, s2, s3, s4, s5, s6, s7, s8, s9⟩
  · left
    obtain ⟨kk, tt, x, y, r1, r2, r3, r4, r5⟩ := bad
    refine ⟨kk, tt, x, y, r1, r2, r3, ?_, r5⟩
    rw [e291 _ _ r4 (by rw [sh_mftI (by omega), r5.I 72 (by omega) (by omega), h.hm.aa 72 (by omega) (by omega)])]
    rfl
  have md1 : sf_291 (sq_279 (dq + 2)) (Int32.ofNat e) mm = sf_293 (sq_279 (dq + 1)) (Int32.ofNat e) mm1 := by
    rw [e291 _ _ s2 (by rw [s6.aa 72 (by omega) (by omega)]), if_pos rfl]
  have G1 : ∀ {tq qq uu ll : Nat}, se_G tq qq uu ll mm mm1 := fun {tq qq uu ll} => se_G.R s8
  have J1 : se_J N K V p gs u q B M tp cw ac mc1 mm1 := h.hJ.keep (e := []) (s7 (u := u) (z := z) (q := q) (fr := fr) (cl := cl)) (G1 (tq := tp) (qq := q) (uu := un) (ll := li)) (Nat.le_refl _) (Nat.le_refl _)
  have m74 : mm1.I 74 e = Int32.ofNat a := (congrFun (s6.aa 74 (by omega) (by omega)) e).trans h74
  have e293 : ∀ b m, sf_294 (sq_279 dq) (Int32.ofNat a) mm1 = some (b, m) → sf_293 (sq_279 (dq + 1)) (Int32.ofNat e) mm1 = if b = true then (if sh_okb (Int32.ofNat e) 9000 = true then sh_bn (sf_298 (m.I 74 e) m) fun r2 m12 => if r2 = true then (if sh_okb (Int32.ofNat e) 9000 = true then sh_bc (sf_284 (m12.I 75 e) m12) fun r3 => if r3 < 0 then (if 0 < (m12.I 66 45) then sf_293_77 (sq_279 (dq + 1)) (mm1.I 66 41) (m12.I 75 e) (Int64.toInt32 (m12.J 66 46)) 0 m12 else sh_bn (sf_318 (m12.I 75 e) (m12.T, sh_u2 m12.I 66 41 (mm1.I 66 41), m12.J, m12.s)) fun _ m14 => some (true, m14)) else (if sh_okb (m12.I 75 e) 4002 = true then sh_bn (sf_252 3 (m12.I 69 (Int32.toNatClampNeg (m12.I 75 e))) m12) fun r5 m15 => some (r5, m15) else none) else none) else some (false, m12) else none) else some (false, m) := by
    intro b m hb
    unfold sf_293
    rw [if_pos oe, sh_nIc (by omega), m74]
    show (sh_bn (sf_294 (sq_279 dq) (Int32.ofNat a) mm1) _) = _
    rw [hb, sh_bn_some]
  rcases se_sev (n := n + 1) ok h.tx s5 s6 J1 s4 s9 (h.bd.s1 (n2 := n + 1) (len2 := len1) (by omega) s3 (by omega) (Nat.le_refl _)) h.lB h.c10 h.c6 (by have := h.ifb; omega) ha with bad | ⟨e1, n2, mc2, mm2, u2, sp2, tp2, k, b, nn, v, t, a1, a2, a3, Y⟩
  · left
    obtain ⟨kk, tt, x, y, r1, r2, r3, r4, r5⟩ := bad
    refine ⟨kk, tt, x, y, r1, by rw [s1, r2], (s7 (u := 0) (z := 0) (q := 0) (fr := 0) (cl := 0)).thenW r3, ?_, s8.U.trans r5⟩
    rw [md1, e293 _ _ r4]
    rfl
  have x1 := Y.n5
  have x2 := Y.g14
  have x3 := Y.u5
  have x4 := Y.lu
  have x5 := Y.lsp
  have x6 := Y.sp3
  have x7 := Y.t16
  have x8 := Y.ltp
  have m74b : mm2.I 74 e = Int32.ofNat a := (congrFun (Y.hm.aa 74 (by omega) (by omega)) e).trans h74
  have md2 := e293 _ _ a2
  rw [if_pos rfl, if_pos oe, m74b] at md2
  -- LET
  have at1 := Y.hc.at (n := n2) (by omega) Y.at_ h.c10 (by omega) h.c6 c2' w2 rfl
  have c1 := Y.hc.nx (i := j - 1 + 1)
  have f1 : se_F u2 (z + 1) q fr cl mc2 (se_nx (j - 1 + 1) mc2) := se_nxFr
  have D1 := Y.hD.keep (e := []) f1 (by omega) (Nat.le_refl _)
  have F2 : se_F u z q fr cl mc (se_nx (j - 1 + 1) mc2) := ((s7 (u := u) (z := z) (q := q) (fr := fr) (cl := cl)).trans Y.hF (Nat.le_refl _) (Nat.le_refl _) (Nat.le_refl _) (Nat.le_refl _) (Nat.le_refl _)).trans (f1.less (u := u2) (z := z) (q := q) (fr := fr) (cl := cl) (Nat.le_refl _) (by omega) (Nat.le_refl _) (Nat.le_refl _) (Nat.le_refl _)) x4 (Nat.le_refl _) (Nat.le_refl _) (Nat.le_refl _) (Nat.le_refl _)
  have G2 : se_G tp q un li mm mm2 := (G1 (tq := tp) (qq := q) (uu := un) (ll := li)).trans Y.hG (Nat.le_refl _) (Nat.le_refl _) (Nat.le_refl _) (Nat.le_refl _)
  have zz : Int32.ofNat (z + 1) - 1 = Int32.ofNat z := se_um1
  have cls : sf_78_10 (Int32.ofNat n) mc = se_go n2 (sh_bt (sf_107 (Int32.ofNat z) 160 (se_nx (j - 1 + 1) mc2)) (fun m => (none, m)) fun _ m11 => sh_bc (sf_83 (Int32.ofNat (p0 + 1)) m11) fun r2 => sh_bc (sf_92 r2 m11) fun r3 => if r3 = (-1) then sf_106_46 (Int32.ofNat (p0 + 1)) (Int32.ofNat z) m11 else sh_bt (sf_50 3 (Int32.ofNat (p0 + 1)) m11) (fun m => (none, m)) fun _ m14 => sf_106_46 (Int32.ofNat (p0 + 1)) (Int32.ofNat z) m14) := by
    rw [s1, a1, se_a2 at1]
    unfold sf_106
    rw [c1.cz, zz]
  rcases se_set32 (e := a) N4 c1 (by omega) D1 Y.tN x6 (by omega) Y.hm.we Y.hm.msp Y.hR ha (by rw [Y.hm.aa 73 (by omega) (by omega)]; exact Y.h73) with bad | ⟨mc3, mm3, k2, b2, d1, d2, e3, u3, sp3, Z1, Z2, Z3, Z4, Z5, Z6, Z7, Z8, Z9, Z10, Z11, Z12⟩
  · left
    obtain ⟨kk, tt, x, y, r1, r2, r3, r4, r5⟩ := bad
    refine ⟨kk, tt, x, y, r1, by rw [cls, r2]; rfl, F2.thenW r3, ?_, G2.U.trans r5⟩
    rw [md1, md2, r4]
    rfl
  have m3 : se_m N K P V A q B sp3 ifs cd kn inn tp2 li ac mm3 := se_mR Y.hm Z4 Z6
  have ee : e3 ++ (e1 ++ gs) = (e3 ++ e1) ++ gs := by rw [List.append_assoc]
  rw [ee] at Z1 Z3 Z11
  have F3 : se_F u z q fr cl mc mc3 := F2.trans Z2 (by omega) (Nat.le_refl _) (Nat.le_refl _) (Nat.le_refl _) (Nat.le_refl _)
  have G3 : se_G tp q un li mm mm3 := G2.trans (se_G.R Z4) (Nat.le_refl _) (Nat.le_refl _) (Nat.le_refl _) (Nat.le_refl _)
  have J3 : se_J N K V p ((e3 ++ e1) ++ gs) u3 q B M tp2 cw ac mc3 mm3 := h.hJ.keep (e := e3 ++ e1) F3 G3 (by omega) x8
  have m75 : mm3.I 75 e = Int32.ofNat (p0 + 1) := (congrFun (m3.aa 75 (by omega) (by omega)) e).trans h75
  rw [d2, sh_bn_some, if_pos rfl, if_pos oe, m75, s6.mtp] at md2
  rw [d1] at cls
  have cl2 : sf_78_10 (Int32.ofNat n) mc = se_go n2 (sh_bc (sf_92 (Int32.ofNat (V (p0 + 1))) mc3) fun r3 => if r3 = (-1) then sf_106_46 (Int32.ofNat (p0 + 1)) (Int32.ofNat z) mc3 else sh_bt (sf_50 3 (Int32.ofNat (p0 + 1)) mc3) (fun m => (none, m)) fun _ m14 => sf_106_46 (Int32.ofNat (p0 + 1)) (Int32.ofNat z) m14) := by
    rw [cls]
    show se_go n2 (sh_bc (sf_83 (Int32.ofNat (p0 + 1)) mc3) _) = _
    rw [sh_83 h.tx Z1.wc hp k1, sh_bc_some]
  rcases se_find h.tx Z1 m3 J3 h.lB (by omega) hp k1 with ⟨ix, i1, i2, i3, i4⟩ | ⟨i3, i4⟩
  · left
    refine ⟨3, p0 + 1, mc3, mm3, hp, ?_, F3.W Z1.rs, ?_, G3.U⟩
    · rw [cl2, i3, sh_bc_some, if_neg (show ¬ Int32.ofNat ix = -1 from fun r => sh_nI0 (n := ix) (by omega) (by rw [r]; decide)), se_fail N4 Z1 hp]
      rfl
    · rw [md1, md2, i4, sh_bc_some, if_neg (sh_nI0 (by omega)), if_pos (sh_okn' (by omega) (by omega)), sh_nIc (by omega), m3.we.at hp, sh_252, sh_bn_some]
  · right
    rw [i3, sh_bc_some, if_pos rfl] at cl2
    rw [i4, sh_bc_some, if_pos (by decide)] at md2
    obtain ⟨y1, y2, w, y3, y4⟩ := Z3
    have n32 := y1.n2
    have mx1 := sh_mx_1 nn
    have mx2 := sh_mx_le n32
    obtain ⟨sl1, _, _, sl4⟩ := se_slot Z1.cz (by omega : z < z + 1) (by omega)
    obtain ⟨mc4, g1, g2, g3, g4, g5, g6, g7, g8, g9, g10, g11, g12, g13⟩ := se_105 Z1 (by omega) (Int32.ofNat (V (p0 + 1))) (Int32.ofNat (sh_te k2 b2 nn)) (Int32.ofNat w) 0
    have cl3 : sf_78_10 (Int32.ofNat n) mc = sf_78_10 (Int32.ofNat (n2 + 1)) (mc4.T, sh_u2 mc4.I 48 4 (Int32.ofNat z), mc4.J, mc4.s) := by
      rw [cl2]
      unfold sf_106_46
      rw [sh_83 h.tx Z1.wc hp k1, sh_bc_some, sl1, sh_bc_some, y2, sl4, sh_bc_some, y3, g1, sh_bn_some, show (1 : Int32) = Int32.ofNat 1 from rfl, se_118 g2 (by omega) (by omega)]
      rfl
    have c5 := g2.wz (z2 := z)
    have f5 : se_F u3 z (q + 1) fr cl mc4 (mc4.T, sh_u2 mc4.I 48 4 (Int32.ofNat z), mc4.J, mc4.s) := se_F.wI (by omega) (by omega) (by omega) (by omega) (by omega) (by omega)
    have F5 : se_F u z q fr cl mc (mc4.T, sh_u2 mc4.I 48 4 (Int32.ofNat z), mc4.J, mc4.s) := (F3.trans (g3.less (u := u3) (z := z) (q := q) (fr := fr) (cl := cl) (Nat.le_refl _) (by omega) (Nat.le_refl _) (Nat.le_refl _) (Nat.le_refl _)) (by omega) (Nat.le_refl _) (Nat.le_refl _) (Nat.le_refl _) (Nat.le_refl _)).trans f5 (by omega) (Nat.le_refl _) (by omega) (Nat.le_refl _) (Nat.le_refl _)
    -- the model's name
    obtain ⟨mm4, q1, q2, q3, q4, q5, q6, q7, q8, q9, q10, q11⟩ : ∃ mm4, sf_291 (sq_279 (dq + 2)) (Int32.ofNat e) mm = some (true, mm4) ∧ se_G0 tp q un li mm3 mm4 ∧ mm4.I 93 q = Int32.ofNat (p0 + 1) ∧ mm4.I 94 q = Int32.ofNat k2 ∧ mm4.I 95 q = Int32.ofNat b2 ∧ mm4.I 96 q = Int32.ofNat nn ∧ mm4.I 97 q = Int32.ofNat tp ∧ (∀ x, x < sh_mx nn → mm4.J 92 (tp + x) = v x) ∧ mm4.I 66 41 = Int32.ofNat (tp + sh_mx nn) ∧ mm4.I 66 53 = Int32.ofNat (q + 1) ∧ (∀ f, f ≠ 41 → f ≠ 53 → mm4.I 66 f = mm3.I 66 f) := by
      by_cases hn0 : 0 < nn
      · have mxn : sh_mx nn = nn := sh_mx_pos hn0
        -- where the row stands
        obtain ⟨aa, z1, z2, z3⟩ := Z5.2.2.2.2 hn0
        obtain ⟨a', w1, w2, w3⟩ := Y.hL hn0
        have same : mm3.J 66 46 = mm2.J 66 46 := by
          rcases D1.lo with ⟨_, r, _⟩ | ⟨kk2, _⟩
          · omega
          · have : mm3 = mm2 := by
              have := d2
              unfold sf_298 sf_298_20 at this
              rw [Y.hR.1, if_neg (show ¬ Int32.ofNat k = 3 from fun r => by have := (sh_kI kk2 (c := 3) (by omega)).mp r; omega)] at this
              cases this
              rfl
            rw [this]
        have ea : a' = aa := by
          rw [same, w1] at z1
          have := congrArg Int64.toInt z1
          rw [se_i64 (by omega), se_i64 (by omega)] at this
          omega
        subst ea
        obtain ⟨mm4, q1, q2, q3, q4, q5, q6, q7, q8, q9, q10, q11⟩ := se_293 (Q := sq_279 (dq + 1)) (tp := tp) (un := un) (li := li) (t := p0 + 1) m3.mq (by omega) Z5.1 (Z5.2.1 (by have := y1.k2; omega)) Z5.2.2.1 ⟨hn0, n32⟩ w2 (by omega)
        refine ⟨mm4, ?_, q2, q3, q4, q5, q6, q7, fun x hx => ?_, by rw [mxn]; exact q9, q10, q11⟩
        · rw [md1, md2, Z5.2.2.1, if_pos ((se_0lt (by omega)).mpr hn0), z1, se_c64 (by omega)]
          exact q1
        · rw [mxn] at hx
          rw [q8 x hx]
          exact z3 x hx
      · have hn : nn = 0 := by omega
        subst hn
        have kx : ∀ f, f ≠ 41 → sh_X.I (mm3.T, sh_u2 mm3.I 66 41 (Int32.ofNat tp), mm3.J, mm3.s) 66 f = mm3.I 66 f := fun f hf => se_In (by omega)
        obtain ⟨mm4, q1, q2, q3, q4, q5, q6, q7, q8, q9, q10, q11, q12⟩ := se_318 (m := (mm3.T, sh_u2 mm3.I 66 41 (Int32.ofNat tp), mm3.J, mm3.s)) (un := un) (li := li) (t := p0 + 1) (v := v) ((kx 53 (by omega)).trans m3.mq) (by omega) se_Is (by omega) ((kx 43 (by omega)).trans Z5.1) ((kx 45 (by omega)).trans Z5.2.2.1) (by omega) (fun _ => Z5.2.2.2.1 rfl) (fun r => absurd r (by omega))
        refine ⟨mm4, ?_, (se_G0.wF (f := 41) (x := Int32.ofNat tp) (by omega)).trans q2 (Nat.le_refl _) (Nat.le_refl _) (Nat.le_refl _) (Nat.le_refl _), q3, q4, q5.trans ((kx 44 (by omega)).trans (Z5.2.1 (by have := y1.k2; omega))), q6, q7, q9, q10, q11, fun f h1 h2 => (q12 f h1 h2).trans (kx f h1)⟩
        rw [md1, md2, Z5.2.2.1, if_neg (by decide), q1]
        rfl
    have G4 : se_G0 tp q un li mm mm4 := G3.G0.trans q2 (Nat.le_refl _) (Nat.le_refl _) (Nat.le_refl _) (Nat.le_refl _)
    have sa : se_a mm4 q = tp := by unfold se_a; rw [q7]; exact sh_nIc (by omega)
    have J4 : se_J N K V p ((e3 ++ e1) ++ gs) u3 q B M tp cw ac (mc4.T, sh_u2 mc4.I 48 4 (Int32.ofNat z), mc4.J, mc4.s) mm4 := h.hJ.keep0 (e := e3 ++ e1) F5 G4 (by omega) (Nat.le_refl _)
    have i54 : ∀ c, c ≠ 48 → sh_X.I (mc4.T, sh_u2 mc4.I 48 4 (Int32.ofNat z), mc4.J, mc4.s) c = mc4.I c := fun c hc => se_Ic hc
    have J5 : se_J N K V p ((e3 ++ e1) ++ gs) u3 (q + 1) B M (tp + sh_mx nn) cw ac (mc4.T, sh_u2 mc4.I 48 4 (Int32.ofNat z), mc4.J, mc4.s) mm4 := by
      refine J4.add (z := z) (fr := fr) (cl := cl) (un := un) (li := li) (se_F.refl _) (se_G0.refl _) ?_ (by rw [sa]; exact Nat.le_refl _) (by omega) (by omega)
      refine ⟨p0 + 1, k2, b2, nn, tp, hp, k1, by rw [i54 54 (by omega)]; exact g4, q3, q4, q6, q7, Nat.le_refl _, Or.inr ⟨y1, by rw [i54 55 (by omega)]; exact g5, q5, w, by rw [i54 56 (by omega)]; exact g6, ?_⟩⟩
      have y5 := y4.keep (e := []) (u2 := u3) (m2 := (mc4.T, sh_u2 mc4.I 48 4 (Int32.ofNat z), mc4.J, mc4.s)) (Nat.le_refl _) (fun x _ => by rw [i54 45 (by omega), g9])
      exact y5.cong (fun x hx => (q8 x hx).symm)
    have M4 : se_m N K P V A (q + 1) B sp3 ifs cd kn inn (tp + sh_mx nn) li ac mm4 :=
      se_m.mk (m3.we.same (q2.I 71 (by omega) (by omega)) (q2.I 68 (by omega) (by omega)) (q2.I 69 (by omega) (by omega)) (q2.I 70 (by omega) (by omega))) (fun y h1 h2 => (q2.I y (by omega) (by omega)).trans (m3.aa y h1 h2)) q9 ((q11 42 (by omega) (by omega)).trans m3.msp) q10 ((q11 54 (by omega) (by omega)).trans m3.mB) ((q11 55 (by omega) (by omega)).trans m3.mkn) ((q11 56 (by omega) (by omega)).trans m3.mif) ((q11 57 (by omega) (by omega)).trans m3.mac) ((q11 58 (by omega) (by omega)).trans m3.min_) ((q11 59 (by omega) (by omega)).trans m3.mcd) ((q11 79 (by omega) (by omega)).trans m3.mli) m3.ia
    have w734 : mm4.I 66 73 = Int32.ofNat un := (q11 73 (by omega) (by omega)).trans ((Z4.F 73 (by omega) (by omega) (by omega) (by omega)).trans a3)
    refine ⟨e3 ++ e1, n2 + 1, _, mm4, u3, sp3, tp + sh_mx nn, q + 1, cl3, q1, se_So.mk ?_ c5 M4 J5 (F5.F2.less (Nat.le_refl _) (Nat.le_refl _) h.lB (Nat.le_refl _) (Nat.le_refl _)) (fun x hx => ⟨(F5.na x hx).1, (F5.na x hx).2.1, (F5.na x hx).2.2.2⟩) (G4.less (tp := M) (q := q) (un := un) (li := li) h.hJ.lM (Nat.le_refl _) (Nat.le_refl _) (Nat.le_refl _)).G2 (fun _ => se_No.of F5 G4) w734 (by omega) (by omega) (by omega) (by omega) Z10 (by omega) (by omega) (by omega) (by omega)⟩
    rw [i54 41 (by omega), g8, Z7, se_nxA]
    congr 1
    omega
end
