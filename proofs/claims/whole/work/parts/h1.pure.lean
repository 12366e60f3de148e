/-! EVALUATION: lists of statements -/
section
variable {N : Nat} {K : Nat → Int32} {P V : Nat → Nat} {A C : Nat → Nat → Int32} {p : Nat → Bool} {pf : Nat → Nat} {F c2 un e i j n len d bb sg dq : Nat} {gs : sh_gL} {u z q B M fr cl sp cw ifs cd kn inn tp li : Nat} {ac : Bool} {mc mm : sh_X}
theorem se_So.refl (hat : mc.I 41 13 = Int32.ofNat i) (hc : se_c N K P V C gs u z q B fr cl sp cw ifs cd kn mc) (hm : se_m N K P V A q B sp ifs cd kn inn tp li ac mm) (hJ : se_J N K V p gs u q B M tp cw ac mc mm) (w73 : mm.I 66 73 = Int32.ofNat un) (q4 : 4 * q ≤ bb) (t16 : tp ≤ 16 * bb) (s3 : sp ≤ 3000) :
    se_So N K P V A C p F un i n 0 bb gs u z q B M fr cl sp cw ifs cd kn inn li ac mc mm [] n mc mm u sp tp q :=
  se_So.mk hat hc hm hJ (se_F2.refl mc) (fun _ _ => ⟨rfl, rfl, rfl⟩) (se_G2.refl mm) (fun _ => se_No.refl mc mm) w73 (Nat.le_refl _) (by omega) (Nat.le_refl _) (Nat.le_refl _) s3 (by omega) (Nat.le_refl _) (Nat.le_refl _) (Nat.le_refl _)
theorem se_So.trans {j1 j2 n2 n3 len1 len2 u2 sp2 tp2 q2 u3 sp3 tp3 q3 : Nat} {e1 e2 : sh_gL} {mc2 mm2 mc3 mm3 : sh_X} (h : se_So N K P V A C p F un j1 n len1 bb gs u z q B M fr cl sp cw ifs cd kn inn li ac mc mm e1 n2 mc2 mm2 u2 sp2 tp2 q2) (g : se_So N K P V A C p F un j2 n2 len2 (bb + len1) (e1 ++ gs) u2 z q2 B M fr cl sp2 cw ifs cd kn inn li ac mc2 mm2 e2 n3 mc3 mm3 u3 sp3 tp3 q3) :
    se_So N K P V A C p F un j2 n (len1 + len2) bb gs u z q B M fr cl sp cw ifs cd kn inn li ac mc mm (e2 ++ e1) n3 mc3 mm3 u3 sp3 tp3 q3 := by
  have ee : (e2 ++ e1) ++ gs = e2 ++ (e1 ++ gs) := List.append_assoc _ _ _
  have L := fun (x : Nat) => Nat.le_refl x
  have a1 := h.lq
  have a2 := h.lu
  have a3 := h.lsp
  have a4 := h.n5
  have a5 := h.g14
  have a6 := h.u5
  have b1 := g.lq
  have b2 := g.lu
  have b3 := g.lsp
  have b4 := g.n5
  have b5 := g.g14
  have b6 := g.u5
  have b7 := g.q4
  have b8 := g.t16
  refine se_So.mk g.at_ (by rw [ee]; exact g.hc) g.hm (by rw [ee]; exact g.hJ) (h.hF.trans g.hF a2 (L _) (L _) (L _) (L _)) (fun x hx => ?_) (h.hG.trans g.hG (L _) a1 (L _) (L _)) (fun r => (h.no r).trans (g.no r)) g.w73 (by omega) (by omega) (by omega) (by omega) g.sp3 (by omega) (by omega) (by rw [ee]; omega) (by omega)
  have x1 := h.nq x hx
  have x2 := g.nq x (by omega)
  exact ⟨x2.1.trans x1.1, x2.2.1.trans x1.2.1, x2.2.2.trans x1.2.2⟩
theorem se_So.more {n2 u2 sp2 tp2 q2 len2 : Nat} {e1 : sh_gL} {mc2 mm2 : sh_X} (h : se_So N K P V A C p F un j n len bb gs u z q B M fr cl sp cw ifs cd kn inn li ac mc mm e1 n2 mc2 mm2 u2 sp2 tp2 q2) (hl : len ≤ len2) : se_So N K P V A C p F un j n len2 bb gs u z q B M fr cl sp cw ifs cd kn inn li ac mc mm e1 n2 mc2 mm2 u2 sp2 tp2 q2 :=
  se_So.mk h.at_ h.hc h.hm h.hJ h.hF h.nq h.hG h.no h.w73 h.lq (by have := h.q4; omega) h.lu h.lsp h.sp3 (by have := h.t16; omega) h.n5 h.g14 h.u5
/-- before what stands behind some statements -/
theorem se_So.Ps {n2 u2 sp2 tp2 q2 len1 len2 : Nat} {e1 : sh_gL} {mc2 mm2 : sh_X} (h : se_Ps N K P V A C p pf F c2 un i n len d bb sg dq gs u z q B M fr cl sp cw ifs cd kn inn tp li ac mc mm) (g : se_So N K P V A C p F un j n len1 bb gs u z q B M fr cl sp cw ifs cd kn inn li ac mc mm e1 n2 mc2 mm2 u2 sp2 tp2 q2) (hl : len1 + len2 ≤ len) :
    se_Ps N K P V A C p pf F c2 un j n2 len2 d (bb + len1) sg dq (e1 ++ gs) u2 z q2 B M fr cl sp2 cw ifs cd kn inn tp2 li ac mc2 mm2 := by
  have a1 := h.bd.z2
  have a2 := h.bd.l2
  have a3 := h.bd.bb4
  have a4 := h.bd.un4
  have a5 := h.bd.n5
  have a6 := h.bd.g14
  have a7 := h.bd.u5
  have b1 := g.lq
  have b2 := g.n5
  have b3 := g.g14
  have b4 := g.u5
  have b5 := h.ifb
  have b7 := g.lsp
  have b6 := h.lB
  exact se_Ps.mk h.tx g.hc g.hm g.hJ g.at_ g.w73 (se_Bd.mk (by omega) g.t16 (by omega) g.q4 (by omega) (by omega) (by omega) (by omega) (by omega) h.bd.f4 h.bd.c1 h.bd.dq_ g.sp3 h.bd.cd2 h.bd.d40 h.bd.kF) (by omega) h.c10 h.c6 (by omega) h.hin
theorem se_bad.of2 {mc2 mm2 : sh_X} {rc : Option (Option Unit × sh_X)} {rm : Option (Bool × sh_X)} (h : se_bad N P mc2 mm2 rc rm) (f : se_F2 u z q fr cl mc mc2) (g : se_U mm mm2) : se_bad N P mc mm rc rm := by
  obtain ⟨k, t, a, b, h1, h2, h3, h4, h5⟩ := h
  exact ⟨k, t, a, b, h1, h2, f.thenW h3, h4, g.trans h5⟩
/-- a list of statements -/
theorem se_list {nL : Nat} {r b s : Nat → Nat} {x : Int32} (hr : ∀ k, k < nL → r k < 9000 ∧ A 77 (r k) = (if k + 1 < nL then Int32.ofNat (r (k + 1)) else -1) ∧ P (s k) ≤ P (s (k + 1)) ∧ se_SK N K P V A C p pf F c2 kn (r k) (b k) (b (k + 1)) d (P (s (k + 1)) - P (s k))) (hx : x = if 0 < nL then Int32.ofNat (r 0) else -1) (h : se_Ps N K P V A C p pf F c2 un (b 0) n len d bb sg dq gs u z q B M fr cl sp cw ifs cd kn inn tp li ac mc mm) (hl : P (s nL) ≤ P (s 0) + len) :
    se_bad N P mc mm (sf_78_10 (Int32.ofNat n) mc) (sf_290 (sq_279 (dq + 3)) x mm) ∨
    ∃ e' n2 mc2 mm2 u2 sp2 tp2 q2, sf_78_10 (Int32.ofNat n) mc = sf_78_10 (Int32.ofNat n2) mc2 ∧ sf_290 (sq_279 (dq + 3)) x mm = some (true, mm2) ∧ se_So N K P V A C p F un (b nL) n len bb gs u z q B M fr cl sp cw ifs cd kn inn li ac mc mm e' n2 mc2 mm2 u2 sp2 tp2 q2 := by
  have up : ∀ k, k ≤ nL → P (s 0) ≤ P (s k) := by
    intro k
    induction k with
    | zero => intro _; exact Nat.le_refl _
    | succ k ih => intro hk; have := ih (by omega); have := (hr k (by omega)).2.2.1; omega
  have dn : ∀ k, k ≤ nL → P (s (nL - k)) ≤ P (s nL) := by
    intro k
    induction k with
    | zero => intro _; exact Nat.le_refl _
    | succ k ih =>
      intro hk
      have a := ih (by omega)
      have b := (hr (nL - (k + 1)) (by omega)).2.2.1
      rw [show nL - (k + 1) + 1 = nL - k by omega] at b
      omega
  have main : ∀ k, k ≤ nL → se_bad N P mc mm (sf_78_10 (Int32.ofNat n) mc) (sf_290 (sq_279 (dq + 3)) x mm) ∨
      ∃ e' n2 mc2 mm2 u2 sp2 tp2 q2, sf_78_10 (Int32.ofNat n) mc = sf_78_10 (Int32.ofNat n2) mc2 ∧ sf_290 (sq_279 (dq + 3)) x mm = sf_290_2 (sq_279 (dq + 3)) (if k < nL then Int32.ofNat (r k) else -1) mm2 ∧ se_So N K P V A C p F un (b k) n (P (s k) - P (s 0)) bb gs u z q B M fr cl sp cw ifs cd kn inn li ac mc mm e' n2 mc2 mm2 u2 sp2 tp2 q2 := by
    intro k
    induction k with
    | zero =>
      intro _
      right
      refine ⟨[], n, mc, mm, u, sp, tp, q, rfl, by unfold sf_290; rw [hx], ?_⟩
      rw [Nat.sub_self]
      exact se_So.refl h.hat h.hc h.hm h.hJ h.w73 h.bd.q4 h.bd.t16 h.bd.sp3
    | succ k ih =>
      intro hk
      rcases ih (by omega) with bad | ⟨e1, n1, mc1, mm1, u1, sp1, tp1, q1, a1, a2, a3⟩
      · exact Or.inl bad
      · obtain ⟨x1, x2, x3, x4⟩ := hr k (by omega)
        have u1' := up k (by omega)
        have u2' := up (k + 1) hk
        have d1 := dn (nL - (k + 1)) (by omega)
        rw [show nL - (nL - (k + 1)) = k + 1 by omega] at d1
        have Ps := se_So.Ps h a3 (len2 := P (s (k + 1)) - P (s k)) (by omega)
        have ok : sh_okb (Int32.ofNat (r k)) 9000 = true := sh_okn' x1 (by omega)
        rw [if_pos (show k < nL by omega)] at a2
        have st : ∀ bo m, sf_291 (sq_279 (dq + 2)) (Int32.ofNat (r k)) mm1 = some (bo, m) → sf_290_2s (sq_279 (dq + 3)) (Int32.ofNat (r k)) mm1 = if bo = true then some (.inl (m.I 77 (r k), m)) else some (.inr (false, m)) := by
          intro bo m hb
          unfold sf_290_2s
          rw [if_neg (sh_nI0 (by omega))]
          show (sh_bn (sf_291 (sq_279 (dq + 2)) (Int32.ofNat (r k)) mm1) _) = _
          rw [hb, sh_bn_some, if_pos ok, sh_nIc (by omega)]
        rcases x4 _ _ _ _ _ _ _ _ _ _ _ _ _ _ _ _ _ _ _ _ _ _ _ Ps with bad | ⟨e2, n2, mc2, mm2, u2, sp2, tp2, q2, b1, b2, b3⟩
        · left
          have bad := bad.of2 a3.hF a3.hG.U
          obtain ⟨kk, t, y1, y2, z1, z2, z3, z4, z5⟩ := bad
          refine ⟨kk, t, y1, y2, z1, by rw [a1, z2], z3, ?_, z5⟩
          rw [a2]
          unfold sf_290_2
          exact sh_wend (f := fun q => sf_290_2s (sq_279 (dq + 3)) q.1 q.2) (by
            show sf_290_2s (sq_279 (dq + 3)) (Int32.ofNat (r k)) mm1 = _
            rw [st _ _ z4]
            rfl)
        · right
          refine ⟨e2 ++ e1, n2, mc2, mm2, u2, sp2, tp2, q2, by rw [a1, b1], ?_, (a3.trans b3).more (by omega)⟩
          rw [a2]
          unfold sf_290_2
          rw [sh_wstep (f := fun q => sf_290_2s (sq_279 (dq + 3)) q.1 q.2) (t := (if k + 1 < nL then Int32.ofNat (r (k + 1)) else -1, mm2))]
          show sf_290_2s (sq_279 (dq + 3)) (Int32.ofNat (r k)) mm1 = _
          rw [st _ _ b2, if_pos rfl, b3.hm.aa 77 (by omega) (by omega), x2]
  rcases main nL (Nat.le_refl _) with bad | ⟨e1, n1, mc1, mm1, u1, sp1, tp1, q1, a1, a2, a3⟩
  · exact Or.inl bad
  · right
    refine ⟨e1, n1, mc1, mm1, u1, sp1, tp1, q1, a1, ?_, a3.more (by omega)⟩
    rw [a2, if_neg (by omega)]
    unfold sf_290_2
    exact sh_wend (f := fun q => sf_290_2s (sq_279 (dq + 3)) q.1 q.2) (by
      show sf_290_2s (sq_279 (dq + 3)) (-1) mm1 = _
      unfold sf_290_2s
      rw [if_pos (by decide)])
/-- the names of a block are gone -/
theorem se_J.drop {gs2 : sh_gL} {u2 q2 tp2 cw2 : Nat} {ac2 : Bool} {mc2 mm2 : sh_X} (h : se_J N K V p gs u q B M tp cw ac mc mm) (g : se_J N K V p gs2 u2 q2 B M tp2 cw2 ac2 mc2 mm2) (hq : q ≤ q2) (ht : tp ≤ 1000000) (ht2 : tp2 ≤ 1000000) (hk : ∀ i, i < q → mm2.I 96 i = mm.I 96 i ∧ mm2.I 97 i = mm.I 97 i) : se_J N K V p gs2 u2 q B M tp cw2 ac2 mc2 mm2 := by
  refine se_J.mk (fun i hi => ?_) (fun i j a b => g.sep i j a (by omega)) (fun i a b => g.nM i a (by omega)) h.lM g.ac_ g.lcw g.ou
  obtain ⟨t, k, b, n, a, r1, r2, r3, r4, r5, r6, r7, r8, r9⟩ := g.nm i (by omega)
  obtain ⟨t', k', b', n', a', s1, s2, s3, s4, s5, s6, s7, s8, s9⟩ := h.nm i hi
  obtain ⟨y1, y2⟩ := hk i hi
  have mx := sh_mx_1 n
  have mx' := sh_mx_1 n'
  have l1 : n ≤ sh_mx n := by unfold sh_mx; split <;> omega
  have l2 : n' ≤ sh_mx n' := by unfold sh_mx; split <;> omega
  have en : n = n' := (sh_nIeq (by omega) (by omega)).mp (r6.symm.trans (y1.trans s6))
  have ea : a = a' := (sh_nIeq (by omega) (by omega)).mp (r7.symm.trans (y2.trans s7))
  exact ⟨t, k, b, n, a, r1, r2, r3, r4, r5, r6, r7, by rw [en, ea]; exact s8, r9⟩
/-- another condition -/
theorem se_J.cond {cw2 : Nat} {ac2 : Bool} (h : se_J N K V p gs u q B M tp cw ac mc mm) (h1 : ac2 = sh_va p gs cw2) (h2 : cw2 < gs.length) : se_J N K V p gs u q B M tp cw2 ac2 mc mm := se_J.mk h.nm h.sep h.nM h.lM h1 h2 h.ou
end
