/-! EVALUATION: statements: x = E -/
section
variable {N : Nat} {K : Nat → Int32} {P V : Nat → Nat} {A C : Nat → Nat → Int32} {p : Nat → Bool} {pf : Nat → Nat} {F c2 un e i j n len d bb sg dq : Nat} {gs : sh_gL} {u z q B M fr cl sp cw ifs cd kn inn tp li : Nat} {ac : Bool} {mc mm : sh_X}
def se_41 (x : Int32) (m : sh_X) : sh_X := (m.T, sh_u2 m.I 66 41 x, m.J, m.s)
theorem se_asg {a p0 len1 : Nat} (ok : se_OK N K P V A C p pf F c2 kn a (i + 2) (j - 1) d len1) (h : se_Ps N K P V A C p pf F c2 un i n len d bb sg dq gs u z q B M fr cl sp cw ifs cd kn inn tp li ac mc mm) (hij : i + 2 < j) (hj : j ≤ c2) (he : e < 9000) (ha : a < 9000) (h72 : A 72 e = 21) (h73 : A 73 e = Int32.ofNat p0) (h74 : A 74 e = Int32.ofNat a) (h75 : A 75 e = -1) (h78 : A 78 a = Int32.ofNat (p0 + 2)) (k1 : K p0 = 1) (hp : p0 + 2 ≤ N) (hl : len1 + 2 ≤ len) (c0 : C 36 i = 0) (w0 : C 37 i = Int32.ofNat p0) (c3 : C 36 (i + 1) = 3) (w3 : C 37 (i + 1) = Int32.ofNat p0) (c5 : C 36 (j - 1) = 5) (w5 : C 37 (j - 1) = Int32.ofNat p0) (x5 : C 38 (j - 1) = Int32.ofNat (p0 + 2)) :
    se_bad N P mc mm (sf_78_10 (Int32.ofNat n) mc) (sf_291 (sq_279 (dq + 2)) (Int32.ofNat e) mm) ∨
    ∃ e' n2 mc2 mm2 u2 sp2 tp2 q2, sf_78_10 (Int32.ofNat n) mc = sf_78_10 (Int32.ofNat n2) mc2 ∧ sf_291 (sq_279 (dq + 2)) (Int32.ofNat e) mm = some (true, mm2) ∧ se_So N K P V A C p F un j n len bb gs u z q B M fr cl sp cw ifs cd kn inn li ac mc mm e' n2 mc2 mm2 u2 sp2 tp2 q2 := by
  have N4 := h.tx.N4
  have bz := h.bd.z2
  have bq := h.bd.q4
  have bt := h.bd.t16
  have b4 := h.bd.bb4
  have bn := h.bd.n5
  have bu := h.bd.u5
  have bg := h.bd.g14
  have ifb := h.ifb
  have oe : sh_okb (Int32.ofNat e) 9000 = true := sh_okn' he (by omega)
  have e291 : ∀ b m1, sf_292 1 (mm.I 73 e) mm = some (b, m1) → m1.I 72 e = A 72 e → sf_291 (sq_279 (dq + 2)) (Int32.ofNat e) mm = if b = true then sh_bn (sf_319 (sq_279 (dq + 1)) (Int32.ofNat e) m1) fun r3 m13 => some (r3, se_41 (m1.I 66 41) m13) else some (false, m1) := by
    intro b m1 hb hk
    unfold sf_291
    rw [if_pos oe, sh_nIc (by omega), hb, sh_bn_some]
    cases b with
    | false => rfl
    | true =>
      rw [if_pos rfl, if_pos rfl, if_pos oe, hk, h72, if_neg (by decide), if_pos rfl]
      rfl
  rcases se_s0 (e := e) h (by omega) c0 w0 (by omega) he h73 with bad | ⟨mc1, mm1, s1, s2, s3, s4, s5, s6, s7, s8, s9⟩
  · left
    obtain ⟨kk, tt, x, y, r1, r2, r3, r4, r5⟩ := bad
    refine ⟨kk, tt, x, y, r1, r2, r3, ?_, r5⟩
    rw [e291 _ _ r4 (by rw [sh_mftI (by omega), r5.I 72 (by omega) (by omega), h.hm.aa 72 (by omega) (by omega)])]
    rfl
  have md1 : sf_291 (sq_279 (dq + 2)) (Int32.ofNat e) mm = sh_bn (sf_319 (sq_279 (dq + 1)) (Int32.ofNat e) mm1) fun r3 m13 => some (r3, se_41 (Int32.ofNat tp) m13) := by
    rw [e291 _ _ s2 (by rw [s6.aa 72 (by omega) (by omega)]), if_pos rfl, s6.mtp]
  -- a failure of the model's 319 is one of the statement
  have fin : ∀ {kk : Int32} {tt : Nat} {x y : sh_X}, tt ≤ N → sf_78_10 (Int32.ofNat n) mc = some (none, sh_flt kk (Int32.ofNat (P tt)) x) → se_W mc x → sf_319 (sq_279 (dq + 1)) (Int32.ofNat e) mm1 = some (false, sh_mft kk (Int32.ofNat (P tt)) y) → se_U mm y → se_bad N P mc mm (sf_78_10 (Int32.ofNat n) mc) (sf_291 (sq_279 (dq + 2)) (Int32.ofNat e) mm) := by
    intro kk tt x y r1 r2 r3 r4 r5
    refine ⟨kk, tt, x, (y.T, sh_u2 y.I 66 41 (Int32.ofNat tp), y.J, y.s), r1, r2, r3, ?_, r5.trans (se_G0.wF (tp := 0) (q := 0) (un := 0) (li := 0) (f := 41) (by omega)).U⟩
    rw [md1, r4, sh_bn_some, ← se_mft41]
    rfl
  have G1 : ∀ {tq qq uu ll : Nat}, se_G tq qq uu ll mm mm1 := fun {tq qq uu ll} => se_G.R s8
  -- NAME
  have at1 := s5.at (n := n + 1) (by omega) s4 h.c10 (by omega) h.c6 c3 w3 rfl
  have c1 := s5.nx (i := i + 1 + 1)
  have F1 : ∀ {u z q fr cl : Nat}, se_F u z q fr cl mc (se_nx (i + 1 + 1) mc1) := fun {u z q fr cl} => s7.trans (se_nxFr (u := u) (z := z) (q := q) (fr := fr) (cl := cl)) (Nat.le_refl _) (Nat.le_refl _) (Nat.le_refl _) (Nat.le_refl _) (Nat.le_refl _)
  have J1 : se_J N K V p gs u q B M tp cw ac (se_nx (i + 1 + 1) mc1) mm1 := h.hJ.keep (e := []) (F1 (u := u) (z := z) (q := q) (fr := fr) (cl := cl)) (G1 (tq := tp) (qq := q) (uu := un) (ll := li)) (Nat.le_refl _) (Nat.le_refl _)
  have n83 := sh_83 h.tx c1.wc (show p0 ≤ N by omega) k1
  have m73 : mm1.I 73 e = Int32.ofNat p0 := (congrFun (s6.aa 73 (by omega) (by omega)) e).trans h73
  have m74 : mm1.I 74 e = Int32.ofNat a := (congrFun (s6.aa 74 (by omega) (by omega)) e).trans h74
  have m75 : mm1.I 75 e = -1 := (congrFun (s6.aa 75 (by omega) (by omega)) e).trans h75
  have ot : sh_okb (Int32.ofNat p0) 4002 = true := sh_okn' (by omega) (by omega)
  have m69 : mm1.I 69 p0 = Int32.ofNat (P p0) := s6.we.at (by omega)
  rcases se_find h.tx c1 s6 J1 h.lB (by omega) (show p0 ≤ N by omega) k1 with ⟨ix, i1, i2, i3, i4⟩ | ⟨i3, i4⟩
  · obtain ⟨t2, k, b, nn, aa, r1, r2, r3, r4, r5, r6, r7, r8, r9⟩ := J1.nm ix i2
    have oi : sh_okb (Int32.ofNat ix) 3000 = true := sh_okn' (by omega) (by omega)
    have ns := se_nslot c1.cq i2 (by omega)
    rcases r9 with ⟨x1, x2, x3, x4, x5'⟩ | ⟨y1, y2, y3, w, y4, y5⟩
    · -- it has no type
      refine Or.inl (fin (kk := 4) (tt := p0) (x := se_nx (i + 1 + 1) mc1) (y := mm1) (by omega) ?_ (F1 (u := 0) (z := 0) (q := 0) (fr := 0) (cl := 0) |>.W c1.rs) ?_ s8.U)
      · rw [s1, se_a3 at1]
        unfold sf_119 sf_119_30
        rw [n83, sh_bc_some, i3, sh_bc_some, if_neg (se_ne1 (by omega)), ns.1, sh_bc_some, x3, if_pos rfl, se_fail N4 c1 (by omega)]
        rfl
      · unfold sf_319
        rw [if_pos oe, sh_nIc (by omega), m73, i4, sh_bc_some, if_neg (sh_nI0 (by omega)), if_pos oi, sh_nIc (by omega), r5, x1, if_pos (by decide), if_pos ot, sh_nIc (by omega), m69, sh_252, sh_bn_some]
    · have k2 := y1.k2
      have n32 := y1.n2
      have cl1 : sf_78_10 (Int32.ofNat n) mc = sf_78_10 (Int32.ofNat (n + 1 + 1)) (se_nx (i + 1 + 1) mc1) := by
        rw [s1, se_a3 at1]
        unfold sf_119 sf_119_30
        rw [n83, sh_bc_some, i3, sh_bc_some, if_neg (se_ne1 (by omega)), ns.1, sh_bc_some, y2, if_neg (sh_te_0 y1)]
        rfl
      have e319 : ∀ bo m, sf_294 (sq_279 dq) (Int32.ofNat a) mm1 = some (bo, m) → m.I 74 e = Int32.ofNat a → sf_319 (sq_279 (dq + 1)) (Int32.ofNat e) mm1 = if bo = true then (sh_bn (sf_317 (Int32.ofNat a) (m.I 94 ix) (m.I 95 ix) (m.I 96 ix) m) fun r2 m12 => if r2 = true then (if 0 < m12.I 66 56 then sh_bn (sf_292 (Int32.ofNat (b * sh_mx nn)) (Int32.ofNat p0) m12) (fun r3 m13 => if r3 = true then sf_319_153 (sq_279 (dq + 1)) (Int32.ofNat ix) m13 else some (false, m13)) else sf_319_153 (sq_279 (dq + 1)) (Int32.ofNat ix) m12) else some (false, m12)) else some (false, m) := by
        intro bo m hb h74m
        have e76 : sf_319_76 (sq_279 (dq + 1)) (Int32.ofNat e) (Int32.ofNat p0) (Int32.ofNat ix) (Int32.ofNat b) (Int32.ofNat (sh_mx nn)) mm1 = if bo = true then (sh_bn (sf_317 (Int32.ofNat a) (m.I 94 ix) (m.I 95 ix) (m.I 96 ix) m) fun r2 m12 => if r2 = true then (if 0 < m12.I 66 56 then sh_bn (sf_292 (Int32.ofNat (b * sh_mx nn)) (Int32.ofNat p0) m12) (fun r3 m13 => if r3 = true then sf_319_153 (sq_279 (dq + 1)) (Int32.ofNat ix) m13 else some (false, m13)) else sf_319_153 (sq_279 (dq + 1)) (Int32.ofNat ix) m12) else some (false, m12)) else some (false, m) := by
          unfold sf_319_76
          rw [if_pos oe, sh_nIc (by omega), m75, if_pos (by decide), if_pos oe, m74]
          show (sh_bn (sf_294 (sq_279 dq) (Int32.ofNat a) mm1) _) = _
          rw [hb, sh_bn_some]
          cases bo with
          | false => rfl
          | true => rw [if_pos rfl, if_pos rfl, if_pos oe, if_pos oi, if_pos oi, if_pos oi, h74m, sh_nIc (by omega), sh_nImul]
        unfold sf_319
        rw [if_pos oe, sh_nIc (by omega), m73, i4, sh_bc_some, if_neg (sh_nI0 (by omega)), if_pos oi, sh_nIc (by omega), r5, if_neg (show ¬ Int32.ofNat k = 3 from fun r => by have := (sh_kI k2 (c := 3) (by omega)).mp r; omega), if_pos oi, if_pos oi, r6, y3]
        by_cases hn : nn = 0
        · rw [if_pos (by rw [hn]; rfl), ← e76, hn]
          rfl
        · rw [if_neg (show ¬ Int32.ofNat nn = 0 from fun w => hn ((sh_nIeq (b := 0) (by omega) (by omega)).mp w)), if_pos oi, ← e76, sh_mx_pos (by omega)]
      rcases se_sev (n := n + 1 + 1) ok h.tx c1 s6 J1 se_nxA s9 (h.bd.s1 (n2 := n + 1 + 1) (len2 := len1) (by omega) s3 (by omega) (Nat.le_refl _)) h.lB h.c10 h.c6 (by have := h.ifb; omega) ha with bad | ⟨e1, n2, mc2, mm2, u2, sp2, tp2, k', b', nn', v, t, a1, a2, a3, Y⟩
      · left
        obtain ⟨kk, tt, x, y, q1, q2, q3, q4, q5⟩ := bad
        refine fin q1 (by rw [cl1, q2]) ((F1 (u := 0) (z := 0) (q := 0) (fr := 0) (cl := 0)).thenW q3) ?_ (s8.U.trans q5)
        rw [e319 _ _ q4 (by rw [sh_mftI (by omega), q5.I 74 (by omega) (by omega)]; exact m74)]
        rfl
      have x1 := Y.n5
      have x2 := Y.g14
      have x3 := Y.u5
      have x4 := Y.lu
      have x5'' := Y.lsp
      have x6 := Y.sp3
      have x7 := Y.t16
      have x8 := Y.ltp
      obtain ⟨o93, o94, o95, o96, o97, o98⟩ := Y.hG.na ix i2
      have md2 := e319 _ _ a2 ((congrFun (Y.hm.aa 74 (by omega) (by omega)) e).trans h74)
      rw [if_pos rfl, o94.trans r5, o95.trans y3, o96.trans r6] at md2
      have at5 := Y.hc.at (n := n2) (by omega) Y.at_ h.c10 (by omega) h.c6 c5 w5 x5
      have c6' := Y.hc.nx (i := j - 1 + 1)
      have f6 : se_F u2 (z + 1) q fr cl mc2 (se_nx (j - 1 + 1) mc2) := se_nxFr
      have F6 : se_F u z q fr cl mc (se_nx (j - 1 + 1) mc2) := ((F1 (u := u) (z := z) (q := q) (fr := fr) (cl := cl)).trans Y.hF (Nat.le_refl _) (Nat.le_refl _) (Nat.le_refl _) (Nat.le_refl _) (Nat.le_refl _)).trans (f6.less (u := u2) (z := z) (q := q) (fr := fr) (cl := cl) (Nat.le_refl _) (by omega) (Nat.le_refl _) (Nat.le_refl _) (Nat.le_refl _)) x4 (Nat.le_refl _) (Nat.le_refl _) (Nat.le_refl _) (Nat.le_refl _)
      have F16 : se_F u z q fr cl (se_nx (i + 1 + 1) mc1) (se_nx (j - 1 + 1) mc2) := Y.hF.trans (f6.less (u := u2) (z := z) (q := q) (fr := fr) (cl := cl) (Nat.le_refl _) (by omega) (Nat.le_refl _) (Nat.le_refl _) (Nat.le_refl _)) x4 (Nat.le_refl _) (Nat.le_refl _) (Nat.le_refl _) (Nat.le_refl _)
      have D6 := Y.hD.keep (e := []) f6 (by omega) (Nat.le_refl _)
      have G2 : se_G tp q un li mm mm2 := (G1 (tq := tp) (qq := q) (uu := un) (ll := li)).trans Y.hG (Nat.le_refl _) (Nat.le_refl _) (Nat.le_refl _) (Nat.le_refl _)
      have f92 : sf_92 (Int32.ofNat (V p0)) (se_nx (j - 1 + 1) mc2) = some (Int32.ofNat ix) := by
        rw [se_92c (B := B) c1.cq c6'.cq (by rw [c6'.cB, c1.cB]) (fun y hy => (F16.na y hy).1) (by omega)]
        exact i3
      have p55 : (se_nx (j - 1 + 1) mc2).I 55 ix = Int32.ofNat (sh_te k b nn) := (F16.na ix i2).2.1.trans y2
      have ns6 := se_nslot c6'.cq i2 (by omega)
      have cl2 : sf_78_10 (Int32.ofNat n) mc = se_go n2 (sh_bt (sf_125 (Int32.ofNat (sh_te k b nn)) (Int32.ofNat (p0 + 2)) (se_nx (j - 1 + 1) mc2)) (fun m => (none, m)) fun _ m14 => sh_bc (sf_117 ((m14.I 48 4) - 1) m14) fun r5 => sh_bn (sf_118 1 m14) fun _ m16 => sh_bt (sf_126 (Int32.ofNat ix) (Int32.ofNat p0) r5 m16) (fun m => (none, m)) fun _ m17 => some (some (), m17)) := by
        rw [cl1, a1, se_a5 at5]
        unfold sf_124
        rw [sh_83 h.tx c6'.wc (show p0 ≤ N by omega) k1, sh_bc_some, f92, sh_bc_some, ns6.1, sh_bc_some, p55]
      rcases se_dem (e := a) (w := p0 + 2) N4 c6' (by omega) D6 Y.tN x6 (by omega) Y.hm.we Y.hm.msp Y.hR ha (by rw [Y.hm.aa 73 (by omega) (by omega)]; exact Y.h73) (by rw [Y.hm.aa 78 (by omega) (by omega)]; exact h78) hp y1 with bad | ⟨mc3, mm3, d1, d2, e3, u3, sp3, Z1, Z2, Z3, Z4, Z5, Z6, Z7, Z8, Z9, Z10, Z11, Z12⟩
      · left
        obtain ⟨kk, tt, x, y, q1, q2, q3, q4, q5⟩ := bad
        refine fin q1 (by rw [cl2, q2]; rfl) (F6.thenW q3) ?_ (G2.U.trans q5)
        rw [md2, q4]
        rfl
      have L := fun (x : Nat) => Nat.le_refl x
      have ee : e3 ++ (e1 ++ gs) = (e3 ++ e1) ++ gs := by rw [List.append_assoc]
      rw [ee] at Z1 Z3 Z11
      have m3 : se_m N K P V A q B sp3 ifs cd kn inn tp2 li ac mm3 := se_mR Y.hm Z4 Z6
      have F7 : se_F u z q fr cl mc mc3 := F6.trans Z2 (by omega) (L _) (L _) (L _) (L _)
      have F17 : se_F u z q fr cl (se_nx (i + 1 + 1) mc1) mc3 := F16.trans Z2 (by omega) (L _) (L _) (L _) (L _)
      have G3 : se_G tp q un li mm mm3 := G2.trans (se_G.R Z4) (L _) (L _) (L _) (L _)
      have G13 : se_G tp q un li mm1 mm3 := Y.hG.trans (se_G.R Z4) (L _) (L _) (L _) (L _)
      obtain ⟨_, t49, w', t50, tV⟩ := Z3
      have sl := (se_slot Z1.cz (by omega : z < z + 1) (by omega)).2.2.2
      have c7 := Z1.wz (z2 := z)
      have k7 : ∀ c, c ≠ 48 → sh_X.I (mc3.T, sh_u2 mc3.I 48 4 (Int32.ofNat z), mc3.J, mc3.s) c = mc3.I c := fun c hc => se_Ic hc
      have f7 : ∀ {u z q fr cl : Nat}, se_F u z q fr cl mc3 (mc3.T, sh_u2 mc3.I 48 4 (Int32.ofNat z), mc3.J, mc3.s) := fun {u z q fr cl} => se_F.wI (by omega) (by omega) (by omega) (by omega) (by omega) (by omega)
      have cl3 : sf_78_10 (Int32.ofNat n) mc = se_go n2 (sh_bt (sf_126 (Int32.ofNat ix) (Int32.ofNat p0) (Int32.ofNat w') (mc3.T, sh_u2 mc3.I 48 4 (Int32.ofNat z), mc3.J, mc3.s)) (fun m => (none, m)) fun _ m17 => some (some (), m17)) := by
        rw [cl2, d1]
        show se_go n2 (sh_bc (sf_117 ((mc3.I 48 4) - 1) mc3) _) = _
        rw [Z1.cz, se_um1, sl, sh_bc_some, t50, show (1 : Int32) = Int32.ofNat 1 from rfl, se_118 Z1 (by omega) (by omega), sh_bn_some]
        rfl
      have J3 : se_J N K V p ((e3 ++ e1) ++ gs) u3 q B M tp cw ac (mc3.T, sh_u2 mc3.I 48 4 (Int32.ofNat z), mc3.J, mc3.s) mm3 := h.hJ.keep (e := e3 ++ e1) (F7.trans f7 (L _) (L _) (L _) (L _) (L _)) G3 (by omega) (L _)
      have mem3 : ∀ x, x < sh_mx nn → mm1.J 92 (aa + x) = mm3.J 92 (aa + x) := fun x hx => (G13.me (aa + x) (by omega)).symm
      have hv := tV.keep (e := []) (u2 := u3) (m2 := (mc3.T, sh_u2 mc3.I 48 4 (Int32.ofNat z), mc3.J, mc3.s)) (L _) (fun y _ => by rw [k7 45 (by omega)])
      have h0 : se_V p (mc3.T, sh_u2 mc3.I 48 4 (Int32.ofNat z), mc3.J, mc3.s) ((e3 ++ e1) ++ gs) u3 w k b nn (fun x => mm3.J 92 (aa + x)) := (y5.keep (e := e3 ++ e1) (u2 := u3) (m2 := (mc3.T, sh_u2 mc3.I 48 4 (Int32.ofNat z), mc3.J, mc3.s)) (by omega) (fun y hy => by rw [k7 45 (by omega)]; exact F17.po y hy)).cong mem3
      have md3 : ∀ bo m, (if 0 < ifs then sf_292 (Int32.ofNat (b * sh_mx nn)) (Int32.ofNat p0) mm3 else some (true, mm3)) = some (bo, m) → sf_319 (sq_279 (dq + 1)) (Int32.ofNat e) mm1 = if bo = true then sf_319_153 (sq_279 (dq + 1)) (Int32.ofNat ix) m else some (false, m) := by
        intro bo m hb
        rw [md2, d2, sh_bn_some, if_pos rfl, m3.mif]
        by_cases hi : 0 < ifs
        · rw [if_pos hi] at hb
          rw [if_pos ((se_0lt (by omega)).mpr hi), hb, sh_bn_some]
        · rw [if_neg hi] at hb
          cases hb
          rw [if_neg (fun r => hi ((se_0lt (by omega)).mp r)), if_pos rfl]
      rcases se_126 (t := p0) (ix := ix) (ac := ac) N4 c7 (by omega) i2 y1 ((congrFun (k7 55 (by omega)) ix).trans ((F17.na ix i2).2.1.trans y2)) ((congrFun (k7 56 (by omega)) ix).trans ((F17.na ix i2).2.2.1.trans y4)) hv h0 J3.ac_ J3.lcw m3.ia (by omega) m3.we m3.msp (by omega) Z10 (by omega) (by omega) with bad | ⟨e4, u4, sp4, mc4, mm4, w2, g1, g2, g3, g4, g5, g6, g7, g8, g9, g10, g11, g12, g13, g14⟩
      · left
        obtain ⟨kk, tt, x, y, q1, q2, q3, q4, q5⟩ := bad
        refine fin q1 (by rw [cl3, q2]; rfl) ((F7.trans (f7 (u := u) (z := z) (q := q) (fr := fr) (cl := cl)) (L _) (L _) (L _) (L _) (L _)).thenW q3) ?_ (G3.U.trans q5)
        rw [md3 _ _ q4]
        rfl
      right
      obtain ⟨f, hf⟩ : ∃ f, 0 < nn → mm4.J 66 46 = Int64.ofNat f ∧ aa ≤ f ∧ f + nn ≤ 70000 ∧ ∀ x, x < nn → mm4.J 92 (f + x) = v x := by
        by_cases hn : 0 < nn
        · obtain ⟨f, z1, z2, z3⟩ := Z5.2.2.2.2 hn
          have same : mm3 = mm2 := by
            rcases D6.lo with ⟨rfl, rfl, hLo⟩ | ⟨hk, _⟩
            · exfalso
              have e17 : sf_317 (Int32.ofNat a) (Int32.ofNat k) (Int32.ofNat b) (Int32.ofNat nn) mm2 = sh_bn (sf_299 (Int32.ofNat a) (Int32.ofNat k) (Int32.ofNat b) (Int32.ofNat nn) mm2) fun r1 m11 => some (r1, m11) := by
                unfold sf_317
                rw [Y.hR.1, if_pos (by decide)]
              have R3 : se_R mm2 3 0 0 tp2 v := ⟨Y.hR.1, fun q => absurd rfl q, Y.hR.2.2.1, Y.hR.2.2.2.1, Y.hR.2.2.2.2⟩
              rcases se_setZ (p := p) N4 c6' (by omega) hLo Y.tN y1 x6 (by omega) Y.hm.we Y.hm.msp R3 ha (by rw [Y.hm.aa 73 (by omega) (by omega)]; exact Y.h73) with ⟨kk, tt', x', y', q1, q2, q3, q4, q5⟩ | ⟨n0, _⟩
              · rw [e17, q4] at d2
                cases d2
              · omega
            · exact se_317k d2 (by rw [Y.hR.1]; exact fun r => by have := (sh_kI hk (c := 3) (by omega)).mp r; omega)
          have nn0 : 0 < nn' := by
            have e1 := Z5.2.2.1
            rw [same, Y.hR.2.2.1] at e1
            have nn32 : nn' ≤ 32 := by
              rcases D6.lo with ⟨_, r, _⟩ | ⟨_, r⟩
              · omega
              · exact r.1.n2
            have := (sh_nIeq (by omega) (by omega)).mp e1
            omega
          obtain ⟨f', w1, w2', w3⟩ := Y.hL nn0
          have ef : f' = f := by
            rw [same, w1] at z1
            have := congrArg Int64.toInt z1
            rw [se_i64 (by omega), se_i64 (by omega)] at this
            omega
          subst ef
          exact ⟨f', fun _ => ⟨by rw [g8]; exact z1, by omega, by omega, fun x hx => by rw [g8]; exact z3 x hx⟩⟩
        · exact ⟨0, fun q => absurd q hn⟩
      obtain ⟨J2, j1, j2, j3, j4⟩ := se_153 (Q := sq_279 (dq + 1)) (v := v) (f := f) (ac := ac) (m := mm4) (ix := ix) (n := nn) (a := aa) (by omega) ((g7.F 57 (by omega) (by omega) (by omega) (by omega)).trans m3.mac) (by rw [g7.I 96 (by omega), Z4.I 96 (by omega)]; exact o96.trans r6) (by rw [g7.I 97 (by omega), Z4.I 97 (by omega)]; exact o97.trans r7) n32 (by have := sh_mx_1 nn; omega) (fun q => by rw [g8]; exact Z5.2.2.2.1 q) hf
      have J4 : se_J N K V p (e4 ++ ((e3 ++ e1) ++ gs)) u4 q B M tp cw ac mc4 mm4 := J3.keep (e := e4) (g4 (z := z) (q := q) (fr := fr) (cl := cl)) (se_G.R (un := un) (li := li) g7) g10 (L _)
      have J5 := J4.set (ix := ix) (k := k) (b := b) (n := nn) (a := aa) (w2 := w2) (J2 := J2) i2 (by omega) y1 (by rw [g7.I 94 (by omega), Z4.I 94 (by omega)]; exact o94.trans r5) (by rw [g7.I 95 (by omega), Z4.I 95 (by omega)]; exact o95.trans y3) (by rw [g7.I 96 (by omega), Z4.I 96 (by omega)]; exact o96.trans r6) (by rw [g7.I 97 (by omega), Z4.I 97 (by omega)]; exact o97.trans r7) r8 (((g4 (z := z) (q := q) (fr := fr) (cl := cl)).na ix i2).2.1.trans ((congrFun (k7 55 (by omega)) ix).trans ((F17.na ix i2).2.1.trans y2))) j2 j3 (g6.cong (fun x hx => by rw [j4 x hx, g8]))
      have g41 : ∀ {tq qq uu ll : Nat} {m : sh_X}, se_G0 tq qq uu ll m (se_41 (Int32.ofNat tp) m) := fun {tq qq uu ll m} => se_G0.wF (by omega)
      have J6 := J5.keep0 (e := []) (z := z) (fr := fr) (cl := cl) (un := un) (li := li) (se_F.refl _) g41 (L _) (L _)
      have saa : M ≤ aa := by
        have := J1.nM ix i1 i2
        have sx : se_a mm1 ix = aa := by unfold se_a; rw [r7]; exact sh_nIc (by have := sh_mx_1 nn; omega)
        omega
      have F8 : se_F u z q fr cl mc mc4 := (F7.trans (f7 (u := u) (z := z) (q := q) (fr := fr) (cl := cl)) (L _) (L _) (L _) (L _) (L _)).trans (g4 (z := z) (q := q) (fr := fr) (cl := cl)) (by omega) (L _) (L _) (L _) (L _)
      have F9 : se_F u z B fr cl mc (mc4.T, sh_u2 mc4.I 56 ix (Int32.ofNat w2), mc4.J, mc4.s) := (F8.less (u := u) (z := z) (q := B) (fr := fr) (cl := cl) (L _) (L _) h.lB (L _) (L _)).trans (se_F.wI (c := 56) (i := ix) (x := Int32.ofNat w2) (by omega) (by omega) (by omega) (by omega) (by omega) (by omega)) (L _) (L _) (L _) (L _) (L _)
      have G8 : se_G0 M q un li mm (se_41 (Int32.ofNat tp) (mm4.T, mm4.I, J2, mm4.s)) := ((G3.G0.less (tp := M) (q := q) (un := un) (li := li) h.hJ.lM (L _) (L _) (L _)).trans (se_G.R g7).G0 (L _) (L _) (L _) (L _)).trans ((se_G0.mk rfl rfl (fun _ _ _ => rfl) (fun x _ hx _ _ _ => j2 x hx) (fun _ _ => rfl) (fun y hy => j3 y (by omega)) (fun y _ => ⟨rfl, rfl, rfl, rfl, rfl, by show J2 98 y = _; rw [j2 98 (by omega)]⟩) (fun y _ => ⟨rfl, rfl, rfl, rfl, rfl, rfl, by show J2 111 y = _; rw [j2 111 (by omega)]⟩) (fun y _ => ⟨rfl, rfl, rfl, rfl, by show J2 115 y = _; rw [j2 115 (by omega)]⟩) : se_G0 M q un li mm4 (mm4.T, mm4.I, J2, mm4.s)).trans g41 (L _) (L _) (L _) (L _)) (L _) (L _) (L _) (L _)
      have kk : ∀ y, y ≠ 41 → y ≠ 42 → y ≠ 43 → y ≠ 44 → y ≠ 45 → (se_41 (Int32.ofNat tp) (mm4.T, mm4.I, J2, mm4.s)).I 66 y = mm3.I 66 y := fun y a1 a2 a3 a4 a5 => (se_In (by omega)).trans (g7.F y a2 a3 a4 a5)
      have kc : ∀ y, y ≠ 66 → (se_41 (Int32.ofNat tp) (mm4.T, mm4.I, J2, mm4.s)).I y = mm3.I y := fun y hy => (se_Ic hy).trans (g7.I y hy)
      have M6 : se_m N K P V A q B sp4 ifs cd kn inn tp li ac (se_41 (Int32.ofNat tp) (mm4.T, mm4.I, J2, mm4.s)) :=
        se_m.mk (m3.we.same (kc 71 (by omega)) (kc 68 (by omega)) (kc 69 (by omega)) (kc 70 (by omega))) (fun y h1 h2 => (kc y (by omega)).trans (m3.aa y h1 h2)) se_Is ((se_In (by omega)).trans g9) ((kk 53 (by omega) (by omega) (by omega) (by omega) (by omega)).trans m3.mq) ((kk 54 (by omega) (by omega) (by omega) (by omega) (by omega)).trans m3.mB) ((kk 55 (by omega) (by omega) (by omega) (by omega) (by omega)).trans m3.mkn) ((kk 56 (by omega) (by omega) (by omega) (by omega) (by omega)).trans m3.mif) ((kk 57 (by omega) (by omega) (by omega) (by omega) (by omega)).trans m3.mac) ((kk 58 (by omega) (by omega) (by omega) (by omega) (by omega)).trans m3.min_) ((kk 59 (by omega) (by omega) (by omega) (by omega) (by omega)).trans m3.mcd) ((kk 79 (by omega) (by omega) (by omega) (by omega) (by omega)).trans m3.mli) m3.ia
      have e4e : e4 ++ ((e3 ++ e1) ++ gs) = (e4 ++ e3 ++ e1) ++ gs := by rw [List.append_assoc, List.append_assoc, List.append_assoc]
      have c8 := g3.wI (c := 56) (i := ix) (x := Int32.ofNat w2) (by omega)
      have J7 : se_J N K V p (e4 ++ ((e3 ++ e1) ++ gs)) u4 q B M tp cw ac (mc4.T, sh_u2 mc4.I 56 ix (Int32.ofNat w2), mc4.J, mc4.s) (se_41 (Int32.ofNat tp) (mm4.T, mm4.I, J2, mm4.s)) := J6
      rw [e4e] at c8 J7 g13
      refine ⟨e4 ++ e3 ++ e1, n2 + 1, _, se_41 (Int32.ofNat tp) (mm4.T, mm4.I, J2, mm4.s), u4, sp4, tp, q, by rw [cl3, g1]; rfl, ?_, se_So.mk ?_ c8 M6 J7 F9.F2 (fun x hx => ⟨by rw [se_Ic (by omega)]; exact (F8.na x hx).1, by rw [se_Ic (by omega)]; exact (F8.na x hx).2.1, (F8.na x hx).2.2.2⟩) G8.G2 (fun _ => se_No.of F9 G8) ?_ (L _) (by omega) (by omega) (by omega) g12 (by omega) (by omega) (by omega) (by omega)⟩
      · rw [md1, md3 _ _ g2, if_pos rfl, j1, sh_bn_some]
      · rw [se_Ic (by omega), g5, k7 41 (by omega), Z7, se_nxA]
        congr 1
        omega
      · exact (kk 73 (by omega) (by omega) (by omega) (by omega) (by omega)).trans ((Z4.F 73 (by omega) (by omega) (by omega) (by omega)).trans a3)
  · refine Or.inl (fin (kk := 3) (tt := p0) (x := se_nx (i + 1 + 1) mc1) (y := mm1) (by omega) ?_ (F1 (u := 0) (z := 0) (q := 0) (fr := 0) (cl := 0) |>.W c1.rs) ?_ s8.U)
    · rw [s1, se_a3 at1]
      unfold sf_119
      rw [n83, sh_bc_some, i3, sh_bc_some, if_pos rfl, se_fail N4 c1 (by omega)]
      rfl
    · unfold sf_319
      rw [if_pos oe, sh_nIc (by omega), m73, i4, sh_bc_some, if_pos (by decide), if_pos ot, sh_nIc (by omega), m69, sh_252, sh_bn_some]
end
