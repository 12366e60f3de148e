/-! EVALUATION: statements: output E -/
section
variable {N : Nat} {K : Nat → Int32} {P V : Nat → Nat} {A C : Nat → Nat → Int32} {p : Nat → Bool} {pf : Nat → Nat} {F c2 un e i j n len d bb sg dq : Nat} {gs : sh_gL} {u z q B M fr cl sp cw ifs cd kn inn tp li : Nat} {ac : Bool} {mc mm : sh_X}
theorem se_J.out {mc2 mm2 : sh_X} (h : se_J N K V p gs u q B M tp cw ac mc mm) (f : sh_Ef 23 mc mc2) (g : se_Of mm mm2) (o : se_O p gs mc2 mm2) : se_J N K V p gs u q B M tp cw ac mc2 mm2 := by
  have k : ∀ c, 28 ≤ c → mc2.I c = mc.I c := fun c hc => f.I c (by omega) (by omega) (by omega) (by omega)
  have ea : ∀ i, se_a mm2 i = se_a mm i ∧ se_e mm2 i = se_e mm i := fun i => by
    unfold se_e se_a
    rw [g.I 96 (by omega), g.I 97 (by omega)]
    exact ⟨rfl, rfl⟩
  refine se_J.mk (fun i hi => ?_) (fun i j a b => by rw [(ea i).2, (ea j).1]; exact h.sep i j a b) (fun i a b => by rw [(ea i).1]; exact h.nM i a b) h.lM h.ac_ h.lcw o
  obtain ⟨t, k', b, n, a, r1, r2, r3, r4, r5, r6, r7, r8, r9⟩ := h.nm i hi
  refine ⟨t, k', b, n, a, r1, r2, by rw [k 54 (by omega)]; exact r3, by rw [g.I 93 (by omega)]; exact r4, by rw [g.I 94 (by omega)]; exact r5, by rw [g.I 96 (by omega)]; exact r6, by rw [g.I 97 (by omega)]; exact r7, r8, ?_⟩
  rcases r9 with ⟨x1, x2, x3, x4, x5⟩ | ⟨x1, x2, x3, w, x4, x5⟩
  · exact Or.inl ⟨x1, x2, by rw [k 55 (by omega)]; exact x3, by rw [f.J 57 (by omega), g.J 98 (by omega)]; exact x4, by rw [g.J 98 (by omega)]; exact x5⟩
  · refine Or.inr ⟨x1, by rw [k 55 (by omega)]; exact x2, by rw [g.I 95 (by omega)]; exact x3, w, by rw [k 56 (by omega)]; exact x4, ?_⟩
    rw [g.J 92 (by omega)]
    exact x5.keep (e := []) (Nat.le_refl _) (fun j _ => by rw [k 45 (by omega)])
theorem se_out {a p0 len1 : Nat} (ok : se_OK N K P V A C p pf F c2 kn a (i + 2) (j - 1) d len1) (h : se_Ps N K P V A C p pf F c2 un i n len d bb sg dq gs u z q B M fr cl sp cw ifs cd kn inn tp li ac mc mm) (hC : C 28 12 = Int32.ofNat F) (hF : F < 256) (hij : i + 2 < j) (hj : j ≤ c2) (he : e < 9000) (ha : a < 9000) (h72 : A 72 e = 24) (h73 : A 73 e = Int32.ofNat p0) (h74 : A 74 e = Int32.ofNat a) (hp : p0 ≤ N) (hl : len1 + 2 ≤ len) (c0 : C 36 i = 0) (w0 : C 37 i = Int32.ofNat p0) (cA : C 36 (i + 1) = 12) (wA : C 37 (i + 1) = Int32.ofNat p0) (cB : C 36 (j - 1) = 13) (wB : C 37 (j - 1) = Int32.ofNat p0) :
    se_bad N P mc mm (sf_78_10 (Int32.ofNat n) mc) (sf_291 (sq_279 (dq + 2)) (Int32.ofNat e) mm) ∨
    ∃ e' n2 mc2 mm2 u2 sp2 tp2 q2, sf_78_10 (Int32.ofNat n) mc = sf_78_10 (Int32.ofNat n2) mc2 ∧ sf_291 (sq_279 (dq + 2)) (Int32.ofNat e) mm = some (true, mm2) ∧ se_So N K P V A C p F un j n len bb gs u z q B M fr cl sp cw ifs cd kn inn li ac mc mm e' n2 mc2 mm2 u2 sp2 tp2 q2 := by
  have N4 := h.tx.N4
  have L := fun (x : Nat) => Nat.le_refl x
  have bz := h.bd.z2
  have bq := h.bd.q4
  have bt := h.bd.t16
  have b4 := h.bd.bb4
  have bn := h.bd.n5
  have bu := h.bd.u5
  have bg := h.bd.g14
  have bs := h.bd.sp3
  have ifb := h.ifb
  have hin := h.hin
  have oe : sh_okb (Int32.ofNat e) 9000 = true := sh_okn' he (by omega)
  have e291 : ∀ b m1, sf_292 1 (mm.I 73 e) mm = some (b, m1) → (b = true → m1.I 72 e = 24) → sf_291 (sq_279 (dq + 2)) (Int32.ofNat e) mm = if b = true then sh_bn (sf_322 (sq_279 (dq + 1)) (Int32.ofNat e) m1) fun r3 m13 => some (r3, se_41 (m1.I 66 41) m13) else some (false, m1) := by
    intro b m1 hb hk
    unfold sf_291
    rw [if_pos oe, sh_nIc (by omega), hb, sh_bn_some]
    cases b with
    | false => rfl
    | true =>
      rw [if_pos rfl, if_pos rfl, if_pos oe, hk rfl, if_neg (by decide), if_neg (by decide), if_neg (by decide), if_neg (by decide)]
      rfl
  rcases se_s0 (e := e) h (by omega) c0 w0 (by omega) he h73 with bad | ⟨mc1, mm1, s1, s2, s3, s4, s5, s6, s7, s8, s9⟩
  · left
    obtain ⟨kk, tt, x, y, r1, r2, r3, r4, r5⟩ := bad
    refine ⟨kk, tt, x, y, r1, r2, r3, ?_, r5⟩
    rw [e291 _ _ r4 (fun r => by cases r)]
    rfl
  have md1 : sf_291 (sq_279 (dq + 2)) (Int32.ofNat e) mm = sh_bn (sf_322 (sq_279 (dq + 1)) (Int32.ofNat e) mm1) fun r3 m13 => some (r3, se_41 (Int32.ofNat tp) m13) := by
    rw [e291 _ _ s2 (fun _ => by rw [s6.aa 72 (by omega) (by omega)]; exact h72), if_pos rfl, s6.mtp]
  have fin : ∀ {kk : Int32} {tt : Nat} {x y : sh_X}, tt ≤ N → sf_78_10 (Int32.ofNat n) mc = some (none, sh_flt kk (Int32.ofNat (P tt)) x) → se_W mc x → sf_322 (sq_279 (dq + 1)) (Int32.ofNat e) mm1 = some (false, sh_mft kk (Int32.ofNat (P tt)) y) → se_U mm y → se_bad N P mc mm (sf_78_10 (Int32.ofNat n) mc) (sf_291 (sq_279 (dq + 2)) (Int32.ofNat e) mm) := by
    intro kk tt x y r1 r2 r3 r4 r5
    refine ⟨kk, tt, x, (y.T, sh_u2 y.I 66 41 (Int32.ofNat tp), y.J, y.s), r1, r2, r3, ?_, r5.trans (se_G0.wF (tp := 0) (q := 0) (un := 0) (li := 0) (f := 41) (by omega)).U⟩
    rw [md1, r4, sh_bn_some, ← se_mft41]
    rfl
  have G1 : ∀ {tq qq uu ll : Nat}, se_G tq qq uu ll mm mm1 := fun {tq qq uu ll} => se_G.R s8
  have at1 := s5.at (n := n + 1) (by omega) s4 h.c10 (by omega) h.c6 cA wA rfl
  have c1 := s5.nx (i := i + 1 + 1)
  have F1 : ∀ {u z q fr cl : Nat}, se_F u z q fr cl mc (se_nx (i + 1 + 1) mc1) := fun {u z q fr cl} => s7.trans (se_nxFr (u := u) (z := z) (q := q) (fr := fr) (cl := cl)) (L _) (L _) (L _) (L _) (L _)
  have J1 : se_J N K V p gs u q B M tp cw ac (se_nx (i + 1 + 1) mc1) mm1 := h.hJ.keep (e := []) (F1 (u := u) (z := z) (q := q) (fr := fr) (cl := cl)) (G1 (tq := tp) (qq := q) (uu := un) (ll := li)) (L _) (L _)
  have m73 : mm1.I 73 e = Int32.ofNat p0 := (congrFun (s6.aa 73 (by omega) (by omega)) e).trans h73
  have m74 : mm1.I 74 e = Int32.ofNat a := (congrFun (s6.aa 74 (by omega) (by omega)) e).trans h74
  have ot : sh_okb (Int32.ofNat p0) 4002 = true := sh_okn' (by omega) (by omega)
  have cF : (se_nx (i + 1 + 1) mc1).I 28 12 = Int32.ofNat F := by rw [c1.cc 28 (by omega) (by omega)]; exact hC
  have e153 : sf_78_10 (Int32.ofNat n) mc = se_go (n + 1) (if 0 < ifs ∨ kn < F then some (none, sh_flt 4 (Int32.ofNat (P p0)) (se_nx (i + 1 + 1) mc1)) else some (some (), se_nx (i + 1 + 1) mc1)) := by
    rw [s1, se_a12 at1]
    unfold sf_153 sf_153_21
    rw [c1.cif, c1.ckn, cF, se_fail N4 c1 hp]
    by_cases h1 : 0 < ifs
    · rw [if_pos ((se_0lt (by omega)).mpr h1), if_pos (Or.inl h1)]
      rfl
    · rw [if_neg (fun r => h1 ((se_0lt (by omega)).mp r))]
      by_cases h2 : kn < F
      · rw [if_pos ((sh_nIlt (by omega) (by omega)).mpr h2), if_pos (Or.inr h2)]
        rfl
      · rw [if_neg (fun r => h2 ((sh_nIlt (by omega) (by omega)).mp r)), if_neg (by omega)]
  have e14 : sf_322_14 (sq_279 (dq + 1)) (Int32.ofNat e) mm1 = some (false, sh_mft 4 (Int32.ofNat (P p0)) mm1) := by
    unfold sf_322_14
    rw [if_pos oe, sh_nIc (by omega), m73, if_pos ot, sh_nIc (by omega), s6.we.at hp, sh_252, sh_bn_some]
  by_cases hb : 0 < ifs ∨ kn < F
  · rw [if_pos hb] at e153
    refine Or.inl (fin (kk := 4) (tt := p0) (x := se_nx (i + 1 + 1) mc1) (y := mm1) hp (by rw [e153]; rfl) (F1 (u := 0) (z := 0) (q := 0) (fr := 0) (cl := 0) |>.W c1.rs) ?_ s8.U)
    unfold sf_322
    rw [s6.mif, s6.min_, e14]
    by_cases h1 : 0 < ifs
    · rw [if_pos ((se_0lt (by omega)).mpr h1)]
    · rw [if_neg (fun r => h1 ((se_0lt (by omega)).mp r)), if_pos ((se_0lt (by omega)).mpr (by omega))]
  rw [if_neg hb] at e153
  have cl1 : sf_78_10 (Int32.ofNat n) mc = sf_78_10 (Int32.ofNat (n + 1 + 1)) (se_nx (i + 1 + 1) mc1) := by rw [e153]; rfl
  have e322 : ∀ bo m, sf_294 (sq_279 dq) (Int32.ofNat a) mm1 = some (bo, m) → (bo = true → m.I 74 e = Int32.ofNat a) → sf_322 (sq_279 (dq + 1)) (Int32.ofNat e) mm1 = if bo = true then sh_bn (sf_298 (Int32.ofNat a) m) (fun r2 m12 => if r2 = true then sh_bc (sf_287 2 (m12.I 66 44) (m12.I 66 45) m12) (fun r3 => if r3 = true then (if sh_okb (m12.I 73 e) 4002 = true then sh_bn (sf_252 6 (m12.I 69 (Int32.toNatClampNeg (m12.I 73 e))) m12) (fun r4 m14 => some (r4, m14)) else none) else sf_322_95 (sq_279 (dq + 1)) 0 m12) else some (false, m12)) else some (false, m) := by
    intro bo m hb2 h74m
    unfold sf_322
    rw [s6.mif, s6.min_, if_neg (fun r => hb (Or.inl ((se_0lt (by omega)).mp r))), if_neg (fun r => by have := (se_0lt (by omega)).mp r; omega), if_pos oe, sh_nIc (by omega), m74]
    show (sh_bn (sf_294 (sq_279 dq) (Int32.ofNat a) mm1) _) = _
    rw [hb2, sh_bn_some]
    cases bo with
    | false => rfl
    | true =>
      simp only [if_pos oe, h74m rfl]
  rcases se_sev (n := n + 1 + 1) ok h.tx c1 s6 J1 se_nxA s9 (h.bd.s1 (n2 := n + 1 + 1) (len2 := len1) (by omega) s3 (by omega) (L _)) h.lB h.c10 h.c6 (by omega) ha with bad | ⟨e1, n2, mc2, mm2, u2, sp2, tp2, k', b', nn', v, t, a1, a2, a3, Y⟩
  · left
    obtain ⟨kk, tt, x, y, q1, q2, q3, q4, q5⟩ := bad
    refine fin q1 (by rw [cl1, q2]) ((F1 (u := 0) (z := 0) (q := 0) (fr := 0) (cl := 0)).thenW q3) ?_ (s8.U.trans q5)
    rw [e322 _ _ q4 (fun r => by cases r)]
    rfl
  have x1 := Y.n5
  have x2 := Y.g14
  have x3 := Y.u5
  have x4 := Y.lu
  have x5 := Y.lsp
  have x6 := Y.sp3
  have x7 := Y.t16
  have x8 := Y.ltp
  have md2 := e322 _ _ a2 (fun _ => (congrFun (Y.hm.aa 74 (by omega) (by omega)) e).trans h74)
  rw [if_pos rfl] at md2
  have at3 := Y.hc.at (n := n2) (by omega) Y.at_ h.c10 (by omega) h.c6 cB wB rfl
  have c2' := Y.hc.nx (i := j - 1 + 1)
  have f2' : se_F u2 (z + 1) q fr cl mc2 (se_nx (j - 1 + 1) mc2) := se_nxFr
  have D2 := Y.hD.keep (e := []) f2' (by omega) (L _)
  have F2 : se_F u z q fr cl mc (se_nx (j - 1 + 1) mc2) := ((F1 (u := u) (z := z) (q := q) (fr := fr) (cl := cl)).trans Y.hF (L _) (L _) (L _) (L _) (L _)).trans (f2'.less (u := u2) (z := z) (q := q) (fr := fr) (cl := cl) (L _) (by omega) (L _) (L _) (L _)) x4 (L _) (L _) (L _) (L _)
  have G2 : se_G tp q un li mm mm2 := (G1 (tq := tp) (qq := q) (uu := un) (ll := li)).trans Y.hG (L _) (L _) (L _) (L _)
  have z1 : Int32.ofNat (z + 1) - 1 = Int32.ofNat z := se_um1
  have cl2 : sf_78_10 (Int32.ofNat n) mc = se_go n2 (sh_bt (sf_107 (Int32.ofNat z) 160 (se_nx (j - 1 + 1) mc2)) (fun m => (none, m)) fun _ m11 => sh_bc (sf_108 (Int32.ofNat z) m11) fun r2 => sh_bc (sf_95 23 (sf_42 1 (sf_93 r2)) (sf_94 r2) m11) fun r6 => if r6 = true then sf_154_59 (Int32.ofNat z) r2 m11 else sh_bt (sf_50 6 (Int32.ofNat p0) m11) (fun m => (none, m)) fun _ m17 => sf_154_59 (Int32.ofNat z) r2 m17) := by
    rw [cl1, a1, se_a13 at3]
    unfold sf_154
    rw [c2'.cz, z1]
  rcases se_set32 (e := a) N4 c2' (by omega) D2 Y.tN x6 (by omega) Y.hm.we Y.hm.msp Y.hR ha (by rw [Y.hm.aa 73 (by omega) (by omega)]; exact Y.h73) with bad | ⟨mc3, mm3, k2, b2, d1, d2, e3, u3, sp3, Z1, Z2, Z3, Z4, Z5, Z6, Z7, Z8, Z9, Z10, Z11, Z12⟩
  · left
    obtain ⟨kk, tt, x, y, q1, q2, q3, q4, q5⟩ := bad
    refine fin q1 (by rw [cl2, q2]; rfl) (F2.thenW q3) ?_ (G2.U.trans q5)
    rw [md2, q4]
    rfl
  have ee : e3 ++ (e1 ++ gs) = (e3 ++ e1) ++ gs := by rw [List.append_assoc]
  rw [ee] at Z1 Z3 Z11
  obtain ⟨T1, T2, w', T3, T4⟩ := Z3
  have b2l := T1.b2
  have n32 := T1.n2
  have mxl := sh_mx_le n32
  have sl := se_slot Z1.cz (by omega : z < z + 1) (by omega)
  have m3 : se_m N K P V A q B sp3 ifs cd kn inn tp2 li ac mm3 := se_mR Y.hm Z4 Z6
  have F3 : se_F u z q fr cl mc mc3 := F2.trans Z2 x4 (L _) (L _) (L _) (L _)
  have G3 : se_G tp q un li mm mm3 := G2.trans (se_G.R Z4) (L _) (L _) (L _) (L _)
  have J3 : se_J N K V p ((e3 ++ e1) ++ gs) u3 q B M tp cw ac mc3 mm3 := h.hJ.keep (e := e3 ++ e1) F3 G3 (by omega) (L _)
  obtain ⟨n0, W, f, O1, O2, O3, O4⟩ := J3.ou
  have o1 := O1.n1
  have o2 := O1.t1
  have mb : sh_mx nn' * b2 ≤ 32 * 64 := Nat.mul_le_mul mxl b2l
  have k2l := T1.k2
  have e44 : mm3.I 66 44 = Int32.ofNat b2 := Z5.2.1 (by omega)
  have e45 : mm3.I 66 45 = Int32.ofNat nn' := Z5.2.2.1
  have e95 : sf_95 23 (Int32.ofNat (sh_mx nn')) (Int32.ofNat b2) mc3 = some (decide (n0 + sh_mx nn' ≤ 256 ∧ sh_sum W n0 + sh_mx nn' * b2 ≤ 1000)) := by
    unfold sf_95
    rw [O1.am, O1.to, sh_nIadd, sh_nImul, sh_nIadd]
    by_cases h1 : 256 < n0 + sh_mx nn'
    · rw [if_pos (show (256 : Int32) < Int32.ofNat (n0 + sh_mx nn') from (sh_nIlt (a := 256) (by omega) (by omega)).mpr h1), decide_eq_false (by omega)]
    · rw [if_neg (show ¬ (256 : Int32) < Int32.ofNat (n0 + sh_mx nn') from fun r => h1 ((sh_nIlt (a := 256) (by omega) (by omega)).mp r))]
      by_cases h2 : 1000 < sh_sum W n0 + sh_mx nn' * b2
      · rw [if_pos (show (1000 : Int32) < Int32.ofNat (sh_sum W n0 + sh_mx nn' * b2) from (sh_nIlt (a := 1000) (by omega) (by omega)).mpr h2), decide_eq_false (by omega)]
      · rw [if_neg (show ¬ (1000 : Int32) < Int32.ofNat (sh_sum W n0 + sh_mx nn' * b2) from fun r => h2 ((sh_nIlt (a := 1000) (by omega) (by omega)).mp r)), decide_eq_true (by omega)]
  have e287 : sf_287 2 (mm3.I 66 44) (mm3.I 66 45) mm3 = some (!decide (n0 + sh_mx nn' ≤ 256 ∧ sh_sum W n0 + sh_mx nn' * b2 ≤ 1000)) := by
    have e9 : sf_287_9 2 (Int32.ofNat b2) (Int32.ofNat (sh_mx nn')) mm3 = some (!decide (n0 + sh_mx nn' ≤ 256 ∧ sh_sum W n0 + sh_mx nn' * b2 ≤ 1000)) := by
      unfold sf_287_9 sf_287_43
      rw [if_pos (by decide), show Int32.toNatClampNeg (2 : Int32) = 2 by decide, O2, O3, sh_nImul, sh_nIadd, sh_nIadd]
      by_cases h2 : 1000 < sh_sum W n0 + sh_mx nn' * b2
      · rw [if_pos (show (1000 : Int32) < Int32.ofNat (sh_sum W n0 + sh_mx nn' * b2) from (sh_nIlt (a := 1000) (by omega) (by omega)).mpr h2), decide_eq_false (by omega)]
        rfl
      · rw [if_neg (show ¬ (1000 : Int32) < Int32.ofNat (sh_sum W n0 + sh_mx nn' * b2) from fun r => h2 ((sh_nIlt (a := 1000) (by omega) (by omega)).mp r)), if_pos (by decide)]
        by_cases h1 : 256 < n0 + sh_mx nn'
        · rw [if_pos (show (256 : Int32) < Int32.ofNat (n0 + sh_mx nn') from (sh_nIlt (a := 256) (by omega) (by omega)).mpr h1), decide_eq_false (by omega)]
          rfl
        · rw [if_neg (show ¬ (256 : Int32) < Int32.ofNat (n0 + sh_mx nn') from fun r => h1 ((sh_nIlt (a := 256) (by omega) (by omega)).mp r)), decide_eq_true (by omega)]
          rfl
    unfold sf_287
    rw [e44, e45]
    by_cases h0 : nn' = 0
    · rw [if_pos (by rw [h0]; rfl), ← e9, h0]
      rfl
    · rw [if_neg (show ¬ Int32.ofNat nn' = 0 from fun r => h0 ((sh_nIeq (b := 0) (by omega) (by omega)).mp r)), ← e9, sh_mx_pos (by omega)]
  have cl3 : sf_78_10 (Int32.ofNat n) mc = se_go n2 (if decide (n0 + sh_mx nn' ≤ 256 ∧ sh_sum W n0 + sh_mx nn' * b2 ≤ 1000) = true then sf_154_59 (Int32.ofNat z) (Int32.ofNat (sh_te k2 b2 nn')) mc3 else some (none, sh_flt 6 (Int32.ofNat (P p0)) mc3)) := by
    rw [cl2, d1]
    show se_go n2 (sh_bc (sf_108 (Int32.ofNat z) mc3) _) = _
    rw [sl.1, sh_bc_some, T2, sh_93 T1, sh_42_mx (by omega), sh_94 T1, e95, sh_bc_some, se_fail N4 Z1 hp]
    rfl
  have md3 : sf_322 (sq_279 (dq + 1)) (Int32.ofNat e) mm1 = if decide (n0 + sh_mx nn' ≤ 256 ∧ sh_sum W n0 + sh_mx nn' * b2 ≤ 1000) = true then sf_322_95 (sq_279 (dq + 1)) 0 mm3 else some (false, sh_mft 6 (Int32.ofNat (P p0)) mm3) := by
    have m373 : mm3.I 73 e = Int32.ofNat p0 := (congrFun (m3.aa 73 (by omega) (by omega)) e).trans h73
    rw [md2, d2, sh_bn_some, if_pos rfl, e287, sh_bc_some, m373, if_pos ot, sh_nIc (by omega), m3.we.at hp, sh_252, sh_bn_some]
    cases decide (n0 + sh_mx nn' ≤ 256 ∧ sh_sum W n0 + sh_mx nn' * b2 ≤ 1000) with
    | true => rfl
    | false => rfl
  by_cases room : n0 + sh_mx nn' ≤ 256 ∧ sh_sum W n0 + sh_mx nn' * b2 ≤ 1000
  · rw [if_pos (decide_eq_true room)] at cl3 md3
    obtain ⟨mc4, mm4, v1, v2, v3, v4, v5⟩ := se_outp (Q := sq_279 (dq + 1)) Z1.rs T1 T4 Z5 (by omega) O1 O2 O3 O4 room.1 room.2
    have c4 := v3.c (by omega) Z1
    have c5 := c4.wz (z2 := z)
    have J4 := J3.out v3 v4 v5
    have k4 : ∀ c, 28 ≤ c → mc4.I c = mc3.I c := fun c hc => v3.I c (by omega) (by omega) (by omega) (by omega)
    right
    have F5 : ∀ {u z q fr cl z2 : Nat}, se_F u z q fr cl mc4 (mc4.T, sh_u2 mc4.I 48 4 (Int32.ofNat z2), mc4.J, mc4.s) := fun {u z q fr cl z2} => se_F.wI (by omega) (by omega) (by omega) (by omega) (by omega) (by omega)
    have g41 : ∀ {tq qq uu ll : Nat} {m : sh_X}, se_G0 tq qq uu ll m (se_41 (Int32.ofNat tp) m) := fun {tq qq uu ll m} => se_G0.wF (by omega)
    have m4 : se_m N K P V A q B sp3 ifs cd kn inn tp2 li ac mm4 := se_m.mk (m3.we.same (v4.I 71 (by omega)) (v4.I 68 (by omega)) (v4.I 69 (by omega)) (v4.I 70 (by omega))) (fun y h1 h2 => (v4.I y (by omega)).trans (m3.aa y h1 h2)) (by rw [v4.I 66 (by omega)]; exact m3.mtp) (by rw [v4.I 66 (by omega)]; exact m3.msp) (by rw [v4.I 66 (by omega)]; exact m3.mq) (by rw [v4.I 66 (by omega)]; exact m3.mB) (by rw [v4.I 66 (by omega)]; exact m3.mkn) (by rw [v4.I 66 (by omega)]; exact m3.mif) (by rw [v4.I 66 (by omega)]; exact m3.mac) (by rw [v4.I 66 (by omega)]; exact m3.min_) (by rw [v4.I 66 (by omega)]; exact m3.mcd) (by rw [v4.I 66 (by omega)]; exact m3.mli) m3.ia
    have J5 : se_J N K V p ((e3 ++ e1) ++ gs) u3 q B M tp cw ac (mc4.T, sh_u2 mc4.I 48 4 (Int32.ofNat z), mc4.J, mc4.s) (se_41 (Int32.ofNat tp) mm4) := J4.keep0 (e := []) (z := 0) (fr := 0) (cl := 0) (un := 0) (li := 0) F5 g41 (L _) (L _)
    refine ⟨e3 ++ e1, n2 + 1, _, se_41 (Int32.ofNat tp) mm4, u3, sp3, tp, q, ?_, ?_, se_So.mk ?_ c5 m4.w41 J5 (((F3.F2.less (u := u) (z := z) (q := B) (fr := fr) (cl := cl) (L _) (L _) h.lB (L _) (L _)).trans (v3.F2 (by omega)) (L _) (L _) (L _) (L _) (L _)).trans (F5 (u := u) (z := z) (q := B) (fr := fr) (cl := cl)).F2 (L _) (L _) (L _) (L _) (L _)) (fun y hy => ?_) (((G3.less (tp := M) (q := q) (un := un) (li := li) h.hJ.lM (L _) (L _) (L _)).G0.G2.trans v4.G2 (L _) (L _) (L _) (L _)).trans g41.G2 (L _) (L _) (L _) (L _)) (fun r => absurd r (by omega)) ?_ (L _) (by omega) (by omega) (by omega) Z10 (by omega) (by omega) (by omega) (by omega)⟩
    · rw [cl3]
      unfold sf_154_59
      rw [sl.2.2.2, sh_bc_some, T3, v1, sh_bn_some, show (1 : Int32) = Int32.ofNat 1 from rfl, se_118 c4 (by omega) (by omega), sh_bn_some]
      rfl
    · rw [md1, md3, v2, sh_bn_some]
    · rw [se_Ic (by omega), k4 41 (by omega), Z7, se_nxA]
      congr 1
      omega
    · have b0 := F3.na y hy
      refine ⟨?_, ?_, ?_⟩
      · rw [se_Ic (by omega), k4 54 (by omega)]; exact b0.1
      · rw [se_Ic (by omega), k4 55 (by omega)]; exact b0.2.1
      · show mc4.J 57 y = _
        rw [v3.J 57 (by omega)]; exact b0.2.2.2
    · show sh_u2 mm4.I 66 41 (Int32.ofNat tp) 66 73 = _
      rw [sh_u2_idx (by omega), v4.I 66 (by omega), Z4.F 73 (by omega) (by omega) (by omega) (by omega)]
      exact a3
  · rw [if_neg (by rw [decide_eq_false room]; decide)] at cl3 md3
    exact Or.inl (fin (kk := 6) (tt := p0) (x := mc3) (y := mm3) hp (by rw [cl3]; rfl) (F3.W Z1.rs) md3 G3.U)
end
