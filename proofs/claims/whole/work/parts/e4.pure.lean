/-! EVALUATION: signs between two parts -/
section
variable {N : Nat} {K : Nat → Int32} {P V : Nat → Nat} {A C : Nat → Nat → Int32} {p : Nat → Bool} {gs : sh_gL} {u z q B fr cl sp cw ifs cd kn : Nat} {mc mm : sh_X}
theorem se_shf {e a t0 t1 t2 k1 b1 n1 k2 b2 n2 tp : Nat} {c : Int32} {v1 v2 : Nat → Int64} {x3 : Int32} {x5 : Int64} (hN : N ≤ 4000) (hc : c = 15420 ∨ c = 15934) (hK : K t0 = c) (h : se_c N K P V C gs u (z + 2) q B fr cl sp cw ifs cd kn mc) (hz : z + 2 ≤ 2048) (h1 : se_D p mc gs u z t1 k1 b1 n1 v1) (h2 : se_D p mc gs u (z + 1) t2 k2 b2 n2 v2) (hsp : sp ≤ 3000) (hgl : gs.length + 14 * (3000 - sp) ≤ 60000) (hu : 4 * u + 5 * (3000 - sp) ≤ 32000)
    (hw : sh_We N K P V mm) (h42 : mm.I 66 42 = Int32.ofNat sp) (hR : se_R mm k2 b2 n2 tp v2) (hRA : se_R (mm.T, sh_u2 (sh_u2 (sh_u2 mm.I 66 43 (Int32.ofNat k1)) 66 44 x3) 66 45 (Int32.ofNat n1), sh_u2 mm.J 66 46 x5, mm.s) k1 b1 n1 tp v1) (he : e < 9000) (hae : a < 9000) (h73 : mm.I 73 e = Int32.ofNat t0) (h74 : mm.I 74 e = Int32.ofNat a) (h73a : mm.I 73 a = Int32.ofNat t1) (ht : t0 ≤ N) (ht1 : t1 ≤ N) (h68 : mm.I 68 t0 = c) :
    se_Bo N K P V C p gs u z q B fr cl sp cw ifs cd kn tp mc mm (sf_171 (Int32.ofNat t0) mc) (sf_303 (Int32.ofNat e) (Int32.ofNat k1) x3 (Int32.ofNat n1) x5 mm) := by
  have z2 : Int32.ofNat (z + 2) - 2 = Int32.ofNat z := sh_nIsub (b := 2) (by omega)
  have z1 : Int32.ofNat (z + 2) - 1 = Int32.ofNat (z + 1) := sh_nIsub (b := 1) (by omega)
  have c46 := sh_46 h.wc hN ht
  have eta : ∀ x : Option (Option Unit × sh_X), (sh_bt x (fun m => ((none : Option Unit), m)) fun _ m11 => some (some (), m11)) = x := by
    intro x
    cases x with
    | none => rfl
    | some r =>
      obtain ⟨r, m⟩ := r
      cases r with
      | none => rfl
      | some r => rfl
  have cls : sf_171 (Int32.ofNat t0) mc = sh_bt (sf_107 (Int32.ofNat z) 160 mc) (fun m => (none, m)) fun _ m11 => sh_bc (sf_108 (Int32.ofNat z) m11) fun r2 => sh_bc (sf_108 (Int32.ofNat (z + 1)) m11) fun r3 => if r3 = 0 then sf_172_60 (Int32.ofNat t0) (decide (c = 15420)) (Int32.ofNat z) (Int32.ofNat (z + 1)) r2 r3 true m11 else sf_172_60 (Int32.ofNat t0) (decide (c = 15420)) (Int32.ofNat z) (Int32.ofNat (z + 1)) r2 r3 false m11 := by
    have e37 : sf_171 (Int32.ofNat t0) mc = sf_172 (Int32.ofNat t0) (decide (c = 15420)) mc := by
      unfold sf_171
      rw [c46, sh_bc_some, hK]
      unfold sf_171_23 sf_171_37
      rcases hc with rfl | rfl
      · rw [if_pos rfl, if_pos rfl, eta]; rfl
      · rw [if_neg (by decide), if_pos rfl, if_neg (by decide), eta]; rfl
    rw [e37]
    unfold sf_172
    rw [h.cz, z2, z1]
  have lv : sf_274 c = 8 := by
    rcases hc with rfl | rfl <;> decide +kernel
  have k23 : (decide (k2 = 3)) = true ↔ mm.I 66 43 = 3 := by
    rw [decide_eq_true_eq, hR.1]
    rcases h2.lo with ⟨r, _, _⟩ | ⟨hk2, hT⟩
    · rw [r]; exact ⟨fun _ => rfl, fun _ => rfl⟩
    · exact ⟨fun r => by omega, fun r => (sh_kI hk2 (c := 3) (by omega)).mp r⟩
  have md : sf_303 (Int32.ofNat e) (Int32.ofNat k1) x3 (Int32.ofNat n1) x5 mm = sh_bn (sf_298 (Int32.ofNat a) (mm.T, sh_u2 (sh_u2 (sh_u2 mm.I 66 43 (Int32.ofNat k1)) 66 44 x3) 66 45 (Int32.ofNat n1), sh_u2 mm.J 66 46 x5, mm.s)) fun r1 m11 => if r1 = true then (if m11.I 66 43 = 0 then sf_304_118 (Int32.ofNat e) m11 else if (decide (k2 = 3)) = true then if mm.J 66 46 < 0 then sf_304_118 (Int32.ofNat e) m11 else sf_304_95 (Int32.ofNat e) (decide (k2 = 3)) (mm.I 66 43) (mm.I 66 45) (mm.I 66 44) (mm.J 66 46) m11 else sf_304_95 (Int32.ofNat e) (decide (k2 = 3)) (mm.I 66 43) (mm.I 66 45) (mm.I 66 44) (mm.J 66 46) m11) else some (false, m11) := by
    have e304 : sf_303 (Int32.ofNat e) (Int32.ofNat k1) x3 (Int32.ofNat n1) x5 mm = sf_304 (Int32.ofNat e) (Int32.ofNat k1) x3 (Int32.ofNat n1) x5 mm := by
      unfold sf_303
      rw [if_pos (sh_okn' he (by omega)), sh_nIc (by omega), h73, if_pos (sh_okn' (by omega) (by omega)), sh_nIc (by omega), h68, if_pos lv]
      cases sf_304 (Int32.ofNat e) (Int32.ofNat k1) x3 (Int32.ofNat n1) x5 mm with
      | none => rfl
      | some r => rfl
    rw [e304]
    have e13 : sf_304 (Int32.ofNat e) (Int32.ofNat k1) x3 (Int32.ofNat n1) x5 mm = sf_304_13 (Int32.ofNat e) (Int32.ofNat k1) x3 (Int32.ofNat n1) x5 (decide (k2 = 3)) mm := by
      unfold sf_304
      by_cases q : mm.I 66 43 = 3
      · rw [if_pos q, k23.mpr q]
      · rw [if_neg q, show decide (k2 = 3) = false from Bool.eq_false_iff.mpr (fun r => q (k23.mp r))]
    rw [e13]
    unfold sf_304_13
    rw [if_pos (sh_okn' he (by omega)), sh_nIc (by omega), h74]
  have wA : sh_Rr mm (mm.T, sh_u2 (sh_u2 (sh_u2 mm.I 66 43 (Int32.ofNat k1)) 66 44 x3) 66 45 (Int32.ofNat n1), sh_u2 mm.J 66 46 x5, mm.s) := (((sh_Rr.wi (m := mm) (f := 43) (x := Int32.ofNat k1) (by omega)).trans (sh_Rr.wi (f := 44) (x := x3) (by omega))).trans (sh_Rr.wi (f := 45) (x := Int32.ofNat n1) (by omega))).trans (sh_Rr.wj (i := 46) (x := x5))
  have h42A : sh_X.I (mm.T, sh_u2 (sh_u2 (sh_u2 mm.I 66 43 (Int32.ofNat k1)) 66 44 x3) 66 45 (Int32.ofNat n1), sh_u2 mm.J 66 46 x5, mm.s) 66 42 = Int32.ofNat sp := by rw [se_In (by omega), sh_u2_idx (by omega), sh_u2_idx (by omega)]; exact h42
  rw [cls, md]
  rcases h1.lo with ⟨rfl, rfl, hL⟩ | ⟨hk, hT⟩
  · have e98 : sf_298 (Int32.ofNat a) (mm.T, sh_u2 (sh_u2 (sh_u2 mm.I 66 43 (Int32.ofNat 3)) 66 44 x3) 66 45 (Int32.ofNat 0), sh_u2 mm.J 66 46 x5, mm.s) = sh_bn (sf_299 (Int32.ofNat a) (Int32.ofNat 2) (Int32.ofNat 32) (Int32.ofNat 0) (mm.T, sh_u2 (sh_u2 (sh_u2 mm.I 66 43 (Int32.ofNat 3)) 66 44 x3) 66 45 (Int32.ofNat 0), sh_u2 mm.J 66 46 x5, mm.s)) fun r1 m11 => if r1 = true then sf_298_20 m11 else some (false, m11) := by
      unfold sf_298
      rw [hRA.1, if_pos (by decide)]
      rfl
    rw [e98, show (160 : Int32) = Int32.ofNat (sh_te 2 32 0) from rfl]
    rcases se_set (p := p) hN h (by omega : z < z + 2) hz hL ht1 (⟨Or.inr (Or.inr ⟨rfl, by omega, by omega⟩), by omega⟩ : sh_typ 2 32 0) hsp hu (wA.we hw) h42A (hRA.2.2.2.1 rfl) hae (by rw [wA.I 73 (by omega)]; exact h73a) with bad | ⟨n0, hx, e', u2, mc2, mm2, a1, a2, a3, a4, a5, a6, a7, a8, a9, b1', b2', b3, b4, b5, b6, b7⟩
    · left
      obtain ⟨kk, tt, x, y, r1, r2, r3, r4, r5⟩ := bad
      exact ⟨kk, tt, x, y, r1, by rw [r2]; rfl, r3, by rw [r4]; rfl, wA.U.trans r5⟩
    · have hl : (e' ++ gs).length ≤ gs.length := by rw [List.length_append]; omega
      rw [a1, b1']
      have wC := wA.trans b2'
      have R4 : se_R mm2 2 32 0 tp (fun _ => v1 0) := ⟨b3, fun _ => b4, b5, fun _ => by rw [b7]; exact hRA.2.2.2.1 rfl, fun q => absurd q (by omega)⟩
      have D2 : se_D p mc2 (e' ++ gs) u2 (z + 1) t2 k2 b2 n2 v2 := h2.slot (a4 (z + 1) (by omega)) a6 a3.po
      have := se_sh2 (e := e) (t0 := t0) (tp := tp) (mm0 := mm) hN hc a2 hz a5 D2 (by omega) (by omega) (by omega) (wC.we hw) b6 hR R4 he (by rw [wC.I 73 (by omega)]; exact h73) ht (by rw [wC.I 68 (by omega)]; exact h68)
      refine se_Bo.of (e1 := e') (u1 := u2) (sp1 := sp + 32) (mc1 := mc2) (mm1 := mm2) ?_ a3 wC a6 (by omega) a9 (by omega) (by omega)
      exact this
  · have e98 : sf_298 (Int32.ofNat a) (mm.T, sh_u2 (sh_u2 (sh_u2 mm.I 66 43 (Int32.ofNat k1)) 66 44 x3) 66 45 (Int32.ofNat n1), sh_u2 mm.J 66 46 x5, mm.s) = some (true, (mm.T, sh_u2 (sh_u2 (sh_u2 mm.I 66 43 (Int32.ofNat k1)) 66 44 x3) 66 45 (Int32.ofNat n1), sh_u2 mm.J 66 46 x5, mm.s)) := by
      unfold sf_298 sf_298_20
      rw [hRA.1, if_neg (show ¬ Int32.ofNat k1 = 3 from fun r => by have := (sh_kI hk (c := 3) (by omega)).mp r; omega)]
    rw [e98, se_107T h (by omega) hz (by rw [hT.2.1]; exact sh_te_0 hT.1)]
    have := se_sh2 (e := e) (t0 := t0) (tp := tp) (mm0 := mm) hN hc h hz hT h2 hsp hgl hu (wA.we hw) h42A hR hRA he (by rw [wA.I 73 (by omega)]; exact h73) ht (by rw [wA.I 68 (by omega)]; exact h68)
    refine se_Bo.of (e1 := []) (u1 := u) (sp1 := sp) (mc1 := mc) ?_ (se_F.refl mc) wA (Nat.le_refl _) (Nat.le_refl _) rfl (Nat.le_refl _) (Nat.le_refl _)
    exact this
end
section
variable {N : Nat} {K : Nat → Int32} {P V : Nat → Nat} {A C : Nat → Nat → Int32} {p : Nat → Bool} {pf : Nat → Nat} {F c2 fm un e i j n len d bb sg dq : Nat} {gs : sh_gL} {u z q B M fr cl sp cw ifs cd kn inn tp li : Nat} {ac : Bool} {mc mm : sh_X} {Q : sh_Q279}
/-- the bounds for the second part -/
theorem se_Bd.second {e' : sh_gL} {n2 u2 sp2 tp2 len1 len2 d2 ex : Nat} (h : se_Bd P pf F n gs.length u z q fr cl sp cd kn tp li un dq d len bb sg) (n5 : n2 + 50 * (3000 - sp2) ≤ n + 50 * (3000 - sp) + 50) (g14 : (e' ++ gs).length + 14 * (3000 - sp2) ≤ gs.length + 14 * (3000 - sp)) (u5 : 4 * u2 + 5 * (3000 - sp2) ≤ 4 * u + 5 * (3000 - sp)) (t16 : tp2 ≤ 16 * (bb + len1 + 1)) (sp3 : sp2 ≤ 3000) (l1 : 1 ≤ len1) (hl : len1 + 1 + len2 ≤ len) (hd : d ≤ d2) (hd2 : d2 ≤ 40) : se_Bd P pf F n2 (e' ++ gs).length u2 (z + 1) q fr cl sp2 cd kn tp2 li (un + 1) dq d2 len2 (bb + len1 + 1) sg := by
  have a1 := h.z2
  have a2 := h.l2
  have a3 := h.q4
  have a4 := h.bb4
  have a5 := h.un4
  have a6 := h.n5
  have a7 := h.g14
  have a8 := h.u5
  have a9 := h.f4
  have a10 := h.c1
  have a11 := h.dq_
  have a12 := h.kF
  exact se_Bd.mk (by omega) t16 (by omega) (by omega) (by omega) (by omega) (by omega) (by omega) (by omega) (by omega) (by omega) (by omega) sp3 h.cd2 hd2 (by omega)
/-- a sign between two parts -/
theorem se_bin {a b0 k1 t0 len1 len2 : Nat} (ih1 : se_OK N K P V A C p pf F c2 kn a i k1 d len1) (ih2 : se_OK N K P V A C p pf F c2 kn b0 k1 (j - 1) d len2) (h : se_P N K P V A C p pf F c2 fm un e i n len d bb sg dq gs u z q B M fr cl sp cw ifs cd kn inn tp li ac mc mm) (h72 : A 72 e = 10) (h73 : A 73 e = Int32.ofNat t0) (ht : t0 ≤ N) (h74 : A 74 e = Int32.ofNat a) (ha : a < 9000) (h75 : A 75 e = Int32.ofNat b0) (hb : b0 < 9000) (l1 : 1 ≤ len1) (hl : len1 + 1 + len2 ≤ len) (hj : 0 < j) (hj2 : j ≤ c2) (hk : sh_sg (K t0) ∨ (K t0 = 15420 ∨ K t0 = 15934)) (h36 : C 36 (j - 1) = 25) (h37 : C 37 (j - 1) = Int32.ofNat t0) :
    se_X N K P V A C p (sq_279 dq) fm un e j n len d bb gs u z q B fr cl sp cw ifs cd kn inn tp li ac mc mm := by
  have N4 := h.tx.N4
  have le := h.st.le
  obtain ⟨z1, q1, t1, n1⟩ := h.z1
  rcases se_fst ih1 h (Or.inr h72) h74 ha (by omega) with bad | ⟨e1, n2, mc2, mm2, u2, sp2, tp2, ka, ba, na, va, ta, a1, a2, st2, w2, Y1⟩
  · exact Or.inl bad
  have x1 := Y1.n5
  have J2 := h.hJ.keep (e := e1) Y1.hF Y1.hG Y1.lu Y1.ltp
  rcases se_snd (n := n2) ih2 h.tx Y1.hc Y1.hm J2 Y1.at_ st2 w2 (h.bd.second (n2 := n2) (ex := 0) (by omega) Y1.g14 Y1.u5 Y1.t16 Y1.sp3 l1 hl (Nat.le_refl _) h.bd.d40) h.lB h.c10 h.c6 (by have := h.ifb; have := Y1.lsp; omega) (Or.inl h72) h75 hb with bad | ⟨e2, n3, mc3, mm3, u3, sp3, tp3, kb, bb', nb, vb, tb, b1, b2, Y2⟩
  · left
    rw [a1, a2]
    exact bad.of Y1.hF Y1.hG.U
  rw [if_pos h72] at b2
  have x2 := Y2.n5
  have y1 := Y1.g14
  have y2 := Y2.g14
  have y3 := Y1.u5
  have y4 := Y2.u5
  have y5 := Y1.lsp
  have y6 := Y2.lsp
  have y7 := Y2.t16
  have y8 := Y1.ltp
  have y9 := Y2.ltp
  have y10 := Y1.lu
  have y11 := Y2.lu
  have bg := h.bd.g14
  have bu := h.bd.u5
  have bn := h.bd.n5
  have at1 : se_At n3 (j - 1) c2 25 (Int32.ofNat t0) (C 38 (j - 1)) mc3 :=
    se_At.mk (by omega) Y2.at_ (by rw [Y2.hc.cc 28 (by omega) (by omega)]; exact h.c10) (by omega) h.c6 (by rw [Y2.hc.cc 36 (by omega) (by omega)]; exact h36) (by rw [Y2.hc.cc 37 (by omega) (by omega)]; exact h37) (by rw [Y2.hc.cc 38 (by omega) (by omega)])
  have jj : j - 1 + 1 = j := by omega
  have c1 := Y2.hc.nx (i := j - 1 + 1)
  have f1 : se_F u3 (z + 2) q fr cl mc3 (se_nx (j - 1 + 1) mc3) := se_F.wI (by omega) (by omega) (by omega) (by omega) (by omega) (by omega)
  have m1 := se_dnm (un := un) Y2.hm
  have D1 : se_D p (se_nx (j - 1 + 1) mc3) (e2 ++ (e1 ++ gs)) u3 z ta ka ba na va := (Y1.hD.keep (e := e2) Y2.hF (by omega) Y2.lu).keep (e := []) f1 (by omega) (Nat.le_refl _)
  have D2 : se_D p (se_nx (j - 1 + 1) mc3) (e2 ++ (e1 ++ gs)) u3 (z + 1) tb kb bb' nb vb := Y2.hD.keep (e := []) f1 (by omega) (Nat.le_refl _)
  have R2 : se_R (se_dn un mm3) kb bb' nb tp3 vb := Y2.hR.keep (se_dnF (by omega)) (se_dnF (by omega)) (se_dnF (by omega)) rfl rfl
  have Ra := Y1.hR
  have m73 : (se_dn un mm3).I 73 e = Int32.ofNat t0 := by rw [m1.aa 73 (by omega) (by omega)]; exact h73
  have m74 : (se_dn un mm3).I 74 e = Int32.ofNat a := by rw [m1.aa 74 (by omega) (by omega)]; exact h74
  have m75 : (se_dn un mm3).I 75 e = Int32.ofNat b0 := by rw [m1.aa 75 (by omega) (by omega)]; exact h75
  have m73a : (se_dn un mm3).I 73 a = Int32.ofNat ta := by rw [m1.aa 73 (by omega) (by omega)]; exact Y1.h73
  have m73b : (se_dn un mm3).I 73 b0 = Int32.ofNat tb := by rw [m1.aa 73 (by omega) (by omega)]; exact Y2.h73
  have k33 : 33 ≤ (K t0).toInt := by
    rcases hk with q | q | q
    · rcases q with q | q | q | q | q | q | q | q | q | q | q | q | q | q | q | q <;> (rw [q]; decide)
    · rw [q]; decide
    · rw [q]; decide
  have m68 : (se_dn un mm3).I 68 t0 = K t0 := (m1.we.tk ht (Or.inr (Or.inr k33))).mpr rfl
  have bo : se_Bo N K P V C p (e2 ++ (e1 ++ gs)) u3 z q B fr cl sp3 cw ifs cd kn tp3 (se_nx (j - 1 + 1) mc3) (se_dn un mm3) (sf_171 (Int32.ofNat t0) (se_nx (j - 1 + 1) mc3)) (sf_303 (Int32.ofNat e) (mm2.I 66 43) (mm2.I 66 44) (mm2.I 66 45) (mm2.J 66 46) (se_dn un mm3)) := by
    rw [Ra.1, Ra.2.2.1]
    rcases hk with q | q
    · exact se_both (a := a) (b0 := b0) N4 q rfl c1 (by omega) D1 D2 Y2.sp3 (by omega) (by omega) m1.we m1.msp R2 le ha hb m73 m74 m73a m75 m73b ht Y1.tN Y2.tN m68 Ra.2.1 Ra.2.2.2.1
    · refine se_shf (a := a) N4 q rfl c1 (by omega) D1 D2 Y2.sp3 (by omega) (by omega) m1.we m1.msp R2 ?_ le ha m73 m74 m73a ht Y1.tN m68
      refine ⟨by rw [se_In (by omega), sh_u2_idx (by omega), sh_u2_same], fun w => by rw [se_In (by omega), sh_u2_same]; exact Ra.2.1 w, se_Is, fun w => by rw [se_Js]; exact Ra.2.2.2.1 w, fun w => ?_⟩
      obtain ⟨f, f2, f3, f4⟩ := Ra.2.2.2.2 w
      refine ⟨f, by rw [se_Js]; exact f2, by omega, fun x hx => ?_⟩
      rw [se_Jc (by omega)]
      exact (Y2.hG.me (f + x) (by omega)).trans (f4 x hx)
  have F13 : se_F u z q fr cl mc mc3 := Y1.hF.trans Y2.hF y10 (by omega) (Nat.le_refl _) (Nat.le_refl _) (Nat.le_refl _)
  have F14 : se_F u z q fr cl mc (se_nx (j - 1 + 1) mc3) := F13.trans f1 (by omega) (by omega) (Nat.le_refl _) (Nat.le_refl _) (Nat.le_refl _)
  have G13 : se_G tp q un li mm mm3 := Y1.hG.trans Y2.hG y8 (Nat.le_refl _) (Nat.le_refl _) (Nat.le_refl _)
  have G14 : se_G tp q un li mm (se_dn un mm3) := G13.trans se_dnG (Nat.le_refl _) (Nat.le_refl _) (Nat.le_refl _) (Nat.le_refl _)
  have cls : sf_78_10 (Int32.ofNat n) mc = se_go n3 (sf_171 (Int32.ofNat t0) (se_nx (j - 1 + 1) mc3)) := by rw [a1, b1, se_a25 at1]
  rcases bo with bad | ⟨e4, u4, mc4, mm4, k3, b3, v3, sp4, g1, g2, g3, g4, g5, g6, g7, g8, g9, g10, g11, g12, g13, g14⟩
  · left
    obtain ⟨kk, tt, x, y, r1, r2, r3, r4, r5⟩ := bad
    refine ⟨kk, tt, x, y, r1, by rw [cls, r2]; rfl, F14.thenW r3, by rw [a2, b2, r4]; rfl, G14.U.trans r5⟩
  · have e' : e4 ++ (e2 ++ (e1 ++ gs)) = (e4 ++ e2 ++ e1) ++ gs := by rw [List.append_assoc, List.append_assoc]
    rw [e'] at g3 g5 g13
    refine se_Y.X (e' := e4 ++ e2 ++ e1) (n2 := n3 + 1) (mc2 := mc4) (mm2 := mm4) (u2 := u4) (sp2 := sp4) (tp2 := tp3) (k := k3) (b := b3) (nn := 0) (v := v3) (t := t0) ?_ (by rw [cls, g1]; rfl) (by rw [a2, b2, g2]; rfl) ((g7.F 73 (by omega) (by omega) (by omega) (by omega)).trans se_dn7)
    exact se_Y.mk (by rw [g6, se_nxA, jj]) g3 (se_mR m1 g7 g9) (F14.trans g4 (by omega) (Nat.le_refl _) (Nat.le_refl _) (Nat.le_refl _) (Nat.le_refl _)) (G14.trans (se_G.R g7) (Nat.le_refl _) (Nat.le_refl _) (Nat.le_refl _) (Nat.le_refl _)) (Or.inr g5) h73 ht g8 (by omega) (by omega) g12 (by omega) (by omega) (by omega) (by omega) (by omega) (fun q => absurd q (by omega))
end
