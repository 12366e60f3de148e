/-! EVALUATION: FNs -/
section
variable {N : Nat} {K : Nat → Int32} {P V : Nat → Nat} {A C : Nat → Nat → Int32} {p : Nat → Bool} {pf : Nat → Nat} {F c2 : Nat}
theorem se_parP {f n : Nat} {t : Nat → Nat} (hT : sh_Txt N K P V) (H : sh_Pr K A C f n t) (hN : t n ≤ N) : ∀ k, k ≤ n → P (t 0) + 4 * k ≤ P (t k) := by
  have up : ∀ k, k ≤ n → t (n - k) ≤ t n := by
    intro k
    induction k with
    | zero => intro _; exact Nat.le_refl _
    | succ k ih =>
      intro hk
      have a := ih (by omega)
      have b := (H (n - (k + 1)) (by omega)).1
      rw [show n - (k + 1) + 1 = n - k by omega] at b
      omega
  intro k
  induction k with
  | zero => intro _; omega
  | succ k ih =>
    intro hk
    have a := ih (by omega)
    obtain ⟨h1, h2, h3, h4, h5⟩ := H k (by omega)
    have u := up (n - (k + 1)) (by omega)
    rw [show n - (n - (k + 1)) = k + 1 by omega] at u
    have m1 := hT.mono (show t k ≤ t k + 1 by omega) (by omega)
    have m2 := hT.PL (t k + 1) (by omega)
    have e : sp_L (K (t k + 1)) = 2 := by
      rw [h5.1]
      decide
    have m3 := hT.mono (show t k + 1 + 1 ≤ t (k + 1) by omega) (by omega)
    omega
theorem se_fn {ht f lo hi i j p0 q0 : Nat} (hT : sh_Txt N K P V) (hH : sh_Hds N K V A C F) (hF : F < 256) (hC : C 28 12 = Int32.ofNat F) (c10 : C 28 10 = Int32.ofNat c2) (c6 : c2 ≤ 6000) (hPm : ∀ g, g < f → P (pf (g + 1)) ≤ P (pf f)) (hFz : ∀ g, g < f → se_Fz N K P V A C p pf F c2 g) (hf : f < F) (H : sh_Fn N K V A C ht f lo hi i j p0 q0) (h9 : hi ≤ 9000) (hj : j ≤ c2) (hp : P (pf f) ≤ P p0) (hq : P q0 ≤ P (pf (f + 1))) : se_Fz N K P V A C p pf F c2 f := by
  obtain ⟨nf, t, rt, pb, k, l, v, pv, h1, h2, h3, h4, h5, h6, h7, h8, hPr, h10, h11, h12, h13, h14, h15, h16, h17, h18, h19, h20, h21, h22, h23, h24, h25, h26, h27, h28⟩ := H
  have re := sh_R_e h28
  have rp := se_Rpq h28
  have sq := sh_Sl_pq h23
  have mo := fun (a b : Nat) (h1 : a ≤ b) (h2 : b ≤ q0) => hT.mono h1 (show b ≤ N by omega)
  have m0 : P p0 + 4 * nf ≤ P pb := by
    by_cases h0 : 0 < nf
    · have a1 := se_parP hT hPr (by have := h10 h0; omega) nf (Nat.le_refl _)
      have a2 := mo p0 (t 0) (by omega) (by have := hPr.up nf (Nat.le_refl _); have := h10 h0; omega)
      have a3 := mo (t nf) pb (by have := h10 h0; omega) (by omega)
      omega
    · have a2 := mo p0 pb (by omega) (by omega)
      omega
  have m1 := mo pb (pv - 1) (by omega) (by omega)
  have m2 := mo (pv - 1) pv (by omega) (by omega)
  have m3 := mo pv (q0 - 2) (by omega) (by omega)
  have m4 := mo (q0 - 2) q0 (by omega) (by omega)
  have stm := se_stmt (p := p) (pf := pf) (kn := f) hT hH hF hC hPm hFz
  have exv := se_expr (p := p) (pf := pf) (kn := f) hT hH hF hC hPm hFz ht l hi 1 v k (j - 1) pv (q0 - 2) h28 h9 (by omega)
  have LB := se_LBof (p := p) (pf := pf) (F := F) (c2 := c2) (kn := f) hT (stm ht) (fun _ _ _ _ _ _ _ _ H => (sh_S_e H).2.2.1) h23 (by omega) (by omega) (by omega)
  refine ⟨i, j - 1, v, pv, 4 * nf, P q0 - P pb, nf, h6, h1, h18, h26, h27, by omega, h24, by omega, h25, by omega, Nat.le_refl _, by omega, ?_⟩
  intro un n bb dq gs u z q B M fr cl sp cw ifs cd inn tp li ac mc mm hc hm hJ hat w73 bd lB ifb
  have L := fun (x : Nat) => Nat.le_refl x
  have x1 := bd.bb4
  have x2 := bd.un4
  have x3 := bd.z2
  have x4 := bd.l2
  have x5 := bd.n5
  have x6 := bd.g14
  have x7 := bd.u5
  have x8 := bd.t16
  have x9 := bd.q4
  have bdL : se_Bd P pf F n gs.length u z q fr cl sp cd f tp li un dq 1 (P (pv - 1) - P pb) bb 1 := se_Bd.mk bd.z2 bd.t16 bd.l2 bd.q4 (by omega) (by omega) bd.n5 bd.g14 bd.u5 bd.f4 bd.c1 bd.dq_ bd.sp3 bd.cd2 bd.d40 bd.kF
  unfold se_fb
  rcases LB.run (n := n) (dq := dq) (bb := bb) (sg := 1) hT hc hm hJ hat w73 (fun _ => bdL) bd.q4 bd.t16 bd.sp3 lB c10 c6 ifb (Or.inl ⟨hf, by omega⟩) with bad | ⟨e1, n1, mc1, mm1, u1, sp1, tp1, q1, a1, a2, S⟩
  · left
    obtain ⟨kk, tt, x, y, r1, r2, r3, r4, r5⟩ := bad
    exact ⟨kk, tt, x, y, r1, r2, r3, by rw [r4]; rfl, r5⟩
  have y1 := S.lq
  have y2 := S.q4
  have y3 := S.lu
  have y4 := S.lsp
  have y5 := S.sp3
  have y6 := S.t16
  have y7 := S.n5
  have y8 := S.g14
  have y9 := S.u5
  have NO := S.no (Or.inl hf)
  have bdV : se_Bd P pf F n1 (e1 ++ gs).length u1 z q1 fr cl sp1 cd f tp1 li un (dq + 3) 1 (P (q0 - 2) - P pv) (bb + (P (pv - 1) - P pb)) 1 := se_Bd.mk (by omega) y6 (by omega) y2 (by omega) (by omega) (by omega) (by omega) (by omega) bd.f4 bd.c1 (by have := bd.dq_; omega) y5 bd.cd2 bd.d40 bd.kF
  have md : (sh_bn (sf_290 (sq_279 (dq + 3)) (A 86 f) mm) fun r2 m12 => if r2 = true then sf_294 (sq_279 (dq + 3)) (m12.I 87 f) m12 else some (false, m12)) = sf_294 (sq_279 (dq + 3)) (Int32.ofNat v) mm1 := by
    rw [a2, sh_bn_some, if_pos rfl, S.hm.aa 87 (by omega) (by omega), h24]
  rw [md]
  rcases se_sev (n := n1) exv hT S.hc S.hm S.hJ S.at_ S.w73 bdV (by omega) c10 c6 (by omega) (by omega) with bad | ⟨e2, n2, mc2, mm2, u2, sp2, tp2, k', b', nn', v', t', b1, b2, b3, Y⟩
  · left
    obtain ⟨kk, tt, x, y, r1, r2, r3, r4, r5⟩ := bad
    exact ⟨kk, tt, x, y, r1, by rw [a1, r2], S.hF.thenW r3, r4, S.hG.U.trans r5⟩
  right
  have z1 := Y.n5
  have z2 := Y.g14
  have z3 := Y.u5
  have z4 := Y.lu
  have z5 := Y.lsp
  have z6 := Y.sp3
  have z7 := Y.t16
  have z8 := Y.ltp
  have lM := S.hJ.lM
  have ee : e2 ++ (e1 ++ gs) = (e2 ++ e1) ++ gs := by rw [List.append_assoc]
  have hc2 := Y.hc
  have hD2 := Y.hD
  rw [ee] at hc2 hD2 z2
  refine ⟨e2 ++ e1, n2, mc2, mm2, u2, sp2, tp2, q1, k', b', nn', v', t', by rw [a1, b1], b2, se_Fo.mk Y.at_ hc2 Y.hm ((S.hF.full NO).trans (Y.hF.less (u := u1) (z := z) (q := B) (fr := fr) (cl := cl) (L _) (L _) (by omega) (L _) (L _)) y3 (L _) (L _) (L _) (L _)) (((S.hG.full NO).less (tp := M) (q := B) (un := un) (li := li) (L _) lB (L _) (L _)).trans (Y.hG.less (tp := M) (q := B) (un := un) (li := li) lM (by omega) (L _) (L _)).G0 (L _) (L _) (L _) (L _)) b3 hD2 Y.h73 Y.tN Y.hR (fun h0 => ?_) (by omega) (by omega) (by omega) (by omega) z6 (by omega) (by omega) (by omega) (by omega)⟩
  obtain ⟨f', w1, w2, w3⟩ := Y.hL h0
  exact ⟨f', w1, by omega, w3⟩
end
