/-! EVALUATION: B ( E ) -/
/-- a type's word -/
theorem se_tyV {x : Nat} (h : x = 257 ∨ (1 ≤ x ∧ x ≤ 64) ∨ (130 ≤ x ∧ x ≤ 192)) : ∃ k b, sh_typ k b 0 ∧ x = sh_te k b 0 ∧ sh_mt x = 64 * k + (b - 1) := by
  unfold sh_typ sh_te sh_mt
  rcases h with h | h | h
  · exact ⟨0, 1, by omega, by rw [if_pos rfl]; omega, by rw [if_pos h]⟩
  · exact ⟨1, x, by omega, by rw [if_neg (by omega), if_pos rfl]; omega, by rw [if_neg (by omega), if_neg (by omega)]; omega⟩
  · exact ⟨2, x - 128, by omega, by rw [if_neg (by omega), if_neg (by omega)]; omega, by rw [if_neg (by omega), if_pos (by omega)]; omega⟩
theorem se_mtk {k b : Nat} (h : sh_typ k b 0) : Int32.ofNat (64 * k + (b - 1)) / 64 = Int32.ofNat k ∧ (Int32.ofNat (64 * k + (b - 1)) - Int32.ofNat (64 * k + (b - 1)) / 64 * 64) + 1 = Int32.ofNat b := by
  have k2 := h.k2
  have b1 := h.b1
  have b2 := h.b2
  have e : Int32.ofNat (64 * k + (b - 1)) / 64 = Int32.ofNat k := by
    rw [show (64 : Int32) = Int32.ofNat 64 from rfl, sh_idiv (by omega) (by omega)]
    congr 1
    omega
  refine ⟨e, ?_⟩
  rw [e, show (64 : Int32) = Int32.ofNat 64 from rfl, sh_nImul, sh_nIsub (by omega), sh_nI1]
  congr 1
  omega
section
variable {N : Nat} {K : Nat → Int32} {P V : Nat → Nat} {A C : Nat → Nat → Int32} {p : Nat → Bool} {pf : Nat → Nat} {F c2 fm un e i j n len d bb sg dq : Nat} {gs : sh_gL} {u z q B M fr cl sp cw ifs cd kn inn tp li : Nat} {ac : Bool} {mc mm : sh_X} {Q : sh_Q279}
theorem se_conv {a t0 len2 : Nat} (ih : se_OK N K P V A C p pf F c2 kn a i (j - 1) (d + 1) len2) (h : se_P N K P V A C p pf F c2 fm un e i n len d bb sg dq gs u z q B M fr cl sp cw ifs cd kn inn tp li ac mc mm) (h72 : A 72 e = 6) (h73 : A 73 e = Int32.ofNat t0) (ht : t0 + 1 ≤ N) (hk : K t0 = 3) (h74 : A 74 e = Int32.ofNat a) (h75 : A 75 e = Int32.ofNat (t0 + 1)) (ha : a < 9000) (hd : d + 1 ≤ 40) (hl : len2 + 1 ≤ len) (hj : 0 < j) (hj2 : j ≤ c2) (h36 : C 36 (j - 1) = 26) (h37 : C 37 (j - 1) = Int32.ofNat (t0 + 1)) (h38 : C 38 (j - 1) = Int32.ofNat (V t0)) :
    se_X N K P V A C p (sq_279 dq) fm un e j n len d bb gs u z q B fr cl sp cw ifs cd kn inn tp li ac mc mm := by
  have N4 := h.tx.N4
  have le := h.st.le
  obtain ⟨z1, q1, t1, n1⟩ := h.z1
  obtain ⟨k3, b3, y3, v3, mt⟩ := se_tyV (h.tx.V3 t0 (by omega) hk)
  rcases se_one ih h (Or.inl h72) h74 ha hd hl with bad | ⟨e', n2, mc2, mm2, u2, sp2, tp2, k, b, nn, v, t, a1, a2, Y⟩
  · exact Or.inl bad
  rw [h72, if_pos rfl] at a2
  have at1 := Y.st h (by omega) h36 h37 h38
  have c1 := Y.hc.nx (i := j - 1 + 1)
  have jj : j - 1 + 1 = j := by omega
  have f1 : se_F u2 (z + 1) q fr cl mc2 (se_nx (j - 1 + 1) mc2) := se_F.wI (by omega) (by omega) (by omega) (by omega) (by omega) (by omega)
  have m1 := se_dnm (un := un) Y.hm
  have m73 : (se_dn un mm2).I 73 e = Int32.ofNat t0 := by rw [m1.aa 73 (by omega) (by omega)]; exact h73
  have m74 : (se_dn un mm2).I 74 e = Int32.ofNat a := by rw [m1.aa 74 (by omega) (by omega)]; exact h74
  have m75 : (se_dn un mm2).I 75 e = Int32.ofNat (t0 + 1) := by rw [m1.aa 75 (by omega) (by omega)]; exact h75
  have D1 : se_D p (se_nx (j - 1 + 1) mc2) (e' ++ gs) u2 z t k b nn v := Y.hD.keep (e := []) f1 (by omega) (Nat.le_refl _)
  have R1 : se_R (se_dn un mm2) k b nn tp2 v := Y.hR.keep (se_dnF (by omega)) (se_dnF (by omega)) (se_dnF (by omega)) rfl rfl
  have zz : Int32.ofNat (z + 1) - 1 = Int32.ofNat z := se_um1
  have U1 : se_U mm (se_dn un mm2) := Y.hG.U.trans (se_dnG (tp := 0) (q := 0) (un2 := 0) (li := 0)).U
  have F1 := Y.hF.trans f1 Y.lu (by omega) (Nat.le_refl _) (Nat.le_refl _) (Nat.le_refl _)
  have hg := Y.g14
  have hu := Y.u5
  have bg := h.bd.g14
  have bu := h.bd.u5
  have cls : sf_78_10 (Int32.ofNat n2) mc2 = se_go n2 (sh_bt (sf_107 (Int32.ofNat z) 160 (se_nx (j - 1 + 1) mc2)) (fun m => (none, m)) fun _ m11 => sh_bc (sf_108 (Int32.ofNat z) m11) fun r2 => if sf_123 r2 = true then sh_bt (sf_50 4 (Int32.ofNat (t0 + 1)) m11) (fun m => (none, m)) fun _ m14 => sf_192_45 (Int32.ofNat (t0 + 1)) (Int32.ofNat (V t0)) (Int32.ofNat z) r2 m14 else sf_192_45 (Int32.ofNat (t0 + 1)) (Int32.ofNat (V t0)) (Int32.ofNat z) r2 m11) := by
    rw [se_a26 at1]
    unfold sf_192
    rw [c1.cz, zz]
  have mdl : sf_297 (Int32.ofNat e) (se_dn un mm2) = sh_bn (sf_298 (Int32.ofNat a) (se_dn un mm2)) fun r1 m11 => if r1 = true then if 0 < m11.I 66 45 then if sh_okb (Int32.ofNat e) 9000 = true then if sh_okb (m11.I 75 e) 4002 = true then sh_bn (sf_252 4 (m11.I 69 (Int32.toNatClampNeg (m11.I 75 e))) m11) fun r2 m12 => some (r2, m12) else none else none else if sh_okb (Int32.ofNat e) 9000 = true then sh_bc (sf_285 (m11.I 73 e) m11) fun r3 => if r3 / 64 = 0 then if m11.J 66 46 = 0 then sf_297_104 (Int32.ofNat e) (r3 / 64) ((r3 - r3 / 64 * 64) + 1) (((r3 - r3 / 64 * 64) + 1) + m11.I 66 44) 0 m11 else sf_297_104 (Int32.ofNat e) (r3 / 64) ((r3 - r3 / 64 * 64) + 1) (((r3 - r3 / 64 * 64) + 1) + m11.I 66 44) 1 m11 else sf_297_104 (Int32.ofNat e) (r3 / 64) ((r3 - r3 / 64 * 64) + 1) (((r3 - r3 / 64 * 64) + 1) + m11.I 66 44) (sf_288 (r3 / 64) ((r3 - r3 / 64 * 64) + 1) (m11.J 66 46)) m11 else none else some (false, m11) := by
    unfold sf_297
    rw [if_pos (sh_okn' le (by omega)), sh_nIc (by omega), m74]
  rcases se_set32 (p := p) (e := a) N4 c1 (by omega) D1 Y.tN Y.sp3 (by omega) m1.we m1.msp R1 ha (by rw [m1.aa 73 (by omega) (by omega)]; exact Y.h73) with bad | ⟨mc3, mm3, k2, b2, g1, g2, e3, u3, sp3, Z1, Z2, Z3, Z4, Z5, Z6, Z7, Z8, Z9, Z10, Z11, Z12⟩
  · left
    obtain ⟨kk, tt, x, y, r1, r2, r3, r4, r5⟩ := bad
    refine ⟨kk, tt, x, y, r1, ?_, F1.thenW r3, ?_, U1.trans r5⟩
    · rw [a1, cls, r2]
      rfl
    · rw [a2, mdl, r4]
      rfl
  have k2l := Z3.1.k2
  have nn2 := Z3.1.n2
  have b64 := Z3.1.b2
  have b1' := Z3.1.b1
  have b364 := y3.b2
  have b31 := y3.b1
  have k3l := y3.k2
  have k2ne : ¬ k2 = 3 := by omega
  have F3 := F1.trans Z2 Y.lu (by omega) (Nat.le_refl _) (Nat.le_refl _) (Nat.le_refl _)
  have at3 : mc3.I 41 13 = Int32.ofNat j := by rw [Z7, se_nxA, jj]
  have w3 := Z4.we m1.we
  have f13 : se_F u2 z q fr cl mc2 mc3 := (f1.less (u := u2) (z := z) (q := q) (fr := fr) (cl := cl) (Nat.le_refl _) (by omega) (Nat.le_refl _) (Nat.le_refl _) (Nat.le_refl _)).trans Z2 (Nat.le_refl _) (Nat.le_refl _) (Nat.le_refl _) (Nat.le_refl _) (Nat.le_refl _)
  rw [g2, sh_bn_some, if_pos rfl, Z5.2.2.1, Z4.I 75 (by omega), m75, Z4.I 73 (by omega), m73, w3.ty (by omega) hk, mt, sh_bc_some, (se_mtk y3).2, (se_mtk y3).1, if_pos (sh_okn' le (by omega)), if_pos (sh_okn' le (by omega)), if_pos (sh_okn' (by omega) (by omega)), sh_nIc (by omega), w3.at ht, Z5.2.1 k2ne, sh_nIadd] at mdl
  rw [g1] at cls
  have s1 := (se_slot Z1.cz (by omega : z < z + 1) (by omega)).1
  have cl1 : sf_78_10 (Int32.ofNat n2) mc2 = se_go n2 (if 0 < nn then sh_bt (sf_50 4 (Int32.ofNat (t0 + 1)) mc3) (fun m => (none, m)) fun _ m14 => sf_192_45 (Int32.ofNat (t0 + 1)) (Int32.ofNat (V t0)) (Int32.ofNat z) (Int32.ofNat (sh_te k2 b2 nn)) m14 else sf_192_45 (Int32.ofNat (t0 + 1)) (Int32.ofNat (V t0)) (Int32.ofNat z) (Int32.ofNat (sh_te k2 b2 nn)) mc3) := by
    rw [cls]
    show se_go n2 (sh_bc (sf_108 (Int32.ofNat z) mc3) _) = _
    rw [s1, sh_bc_some, Z3.2.1, sh_123 Z3.1]
    congr 1
    by_cases hn : 0 < nn
    · rw [if_pos (decide_eq_true hn), if_pos hn]
    · rw [if_neg (by rw [decide_eq_false hn]; decide), if_neg hn]
  by_cases hn : 0 < nn
  · left
    refine ⟨4, t0 + 1, mc3, mm3, ht, ?_, F3.W Z1.rs, ?_, U1.trans Z4.U⟩
    · rw [a1, cl1, if_pos hn, se_fail N4 Z1 ht]
      rfl
    · rw [a2, mdl, if_pos ((se_0lt (by omega)).mpr hn), sh_252]
      rfl
  · have n0 : nn = 0 := by omega
    subst n0
    rw [if_neg (by decide)] at mdl
    rw [if_neg hn] at cl1
    have J0 := Z5.2.2.2.1 rfl
    obtain ⟨x1, x2, w, x3, x4⟩ := Z3
    rw [J0] at mdl
    have k30 : (Int32.ofNat k3 = 0) ↔ k3 = 0 := sh_kI k3l (c := 0) (by omega)
    -- the model's new value, and what it costs
    obtain ⟨nv, md3, fit0, fit1⟩ : ∃ nv, sf_297 (Int32.ofNat e) (se_dn un mm2) = sf_297_104 (Int32.ofNat e) (Int32.ofNat k3) (Int32.ofNat b3) (Int32.ofNat (b3 + b2)) nv mm3 ∧ (k3 = 0 → ∀ {a : Nat → Bool}, sh_Ft (decide (k2 = 2)) b2 a (v 0) → sh_Ft false 1 (fun _ => sh_or a b2) nv) ∧ (¬ k3 = 0 → ∀ {a : Nat → Bool}, sh_Ft (decide (k2 = 2)) b2 a (v 0) → sh_Ft (decide (k3 = 2)) b3 (fun j => sh_ct a b2 (decide (k2 = 2)) j) nv) := by
      by_cases hk0 : k3 = 0
      · rw [if_pos (k30.mpr hk0)] at mdl
        by_cases hv : v 0 = 0
        · rw [if_pos hv] at mdl
          refine ⟨0, mdl, fun _ a ha => ?_, fun q => absurd hk0 q⟩
          have := sh_Ft_b (b := false) (a := fun _ => sh_or a b2) (by rw [sh_or_zero b1' b64 ha, decide_eq_false (by simp [hv])])
          exact this
        · rw [if_neg hv] at mdl
          refine ⟨1, mdl, fun _ a ha => ?_, fun q => absurd hk0 q⟩
          have := sh_Ft_b (b := true) (a := fun _ => sh_or a b2) (by rw [sh_or_zero b1' b64 ha, decide_eq_true hv])
          exact this
      · rw [if_neg (fun r => hk0 (k30.mp r))] at mdl
        exact ⟨_, mdl, fun q => absurd q hk0, fun _ a ha => sh_Ft_k y3.kd (fun j hj => ha j (by omega))⟩
    have w0 : sh_Rr mm3 (mm3.T, sh_u2 (sh_u2 mm3.I 66 43 (Int32.ofNat k3)) 66 44 (Int32.ofNat b3), sh_u2 mm3.J 66 46 nv, mm3.s) := ((sh_Rr.wi (m := mm3) (f := 43) (x := Int32.ofNat k3) (by omega)).trans (sh_Rr.wi (f := 44) (x := Int32.ofNat b3) (by omega))).trans (sh_Rr.wj (i := 46) (x := nv))
    have md4 : sf_297 (Int32.ofNat e) (se_dn un mm2) = (sh_bn (sf_292 (Int32.ofNat (b3 + b2)) (Int32.ofNat (t0 + 1)) (mm3.T, sh_u2 (sh_u2 mm3.I 66 43 (Int32.ofNat k3)) 66 44 (Int32.ofNat b3), sh_u2 mm3.J 66 46 nv, mm3.s)) fun r m => some (r, m)) := by
      rw [md3]
      unfold sf_297_104
      rw [if_pos (sh_okn' le (by omega)), sh_nIc (by omega), Z4.I 75 (by omega), m75]
    have h42' : sh_X.I (mm3.T, sh_u2 (sh_u2 mm3.I 66 43 (Int32.ofNat k3)) 66 44 (Int32.ofNat b3), sh_u2 mm3.J 66 46 nv, mm3.s) 66 42 = Int32.ofNat sp3 := by rw [se_In (by omega), sh_u2_idx (by omega)]; exact Z6
    have cl2 : sf_78_10 (Int32.ofNat n2) mc2 = se_go n2 (sh_bt (sf_90 (Int32.ofNat (b3 + b2)) (Int32.ofNat (t0 + 1)) mc3) (fun m => (none, m)) fun _ m13 => sh_bc (sf_117 (Int32.ofNat z) m13) fun r4 => sh_bn (sf_193 r4 (Int32.ofNat (sh_te k2 b2 0)) (Int32.ofNat (sh_te k3 b3 0)) m13) fun r5 m15 => sh_bn (sf_167 1 (Int32.ofNat (sh_te k3 b3 0)) r5 m15) fun _ m16 => some (some (), m16)) := by
      rw [cl1]
      unfold sf_192_45
      rw [v3, sh_94 y3, sh_94 x1, sh_nIadd]
    rcases se_pay (x := b3 + b2) (i := t0 + 1) N4 Z1 (w0.we w3) h42' ht (by omega) Z10 with bad | ⟨p1, p2, p3⟩
    · left
      obtain ⟨kk, tt, x, y, r1, r2, r3, r4, r5⟩ := bad
      refine ⟨kk, tt, x, y, r1, ?_, F3.thenW r3, ?_, ((U1.trans Z4.U).trans w0.U).trans r5⟩
      · rw [a1, cl2, r2]
        rfl
      · rw [a2, md4, r4]
        rfl
    · have c3 := Z1.wsp (sp2 := sp3 + (b3 + b2))
      have f3 : se_F u3 (z + 1) q fr cl mc3 (mc3.T, sh_u2 mc3.I 41 14 (Int32.ofNat (sp3 + (b3 + b2))), mc3.J, mc3.s) := se_F.wI (by omega) (by omega) (by omega) (by omega) (by omega) (by omega)
      obtain ⟨_, _, w', x3', x4'⟩ := (show se_T p mc3 (e3 ++ (e' ++ gs)) u3 z k2 b2 0 v from ⟨x1, x2, w, x3, x4⟩).keep (e := []) f3 (by omega) (Nat.le_refl _)
      obtain ⟨FF, y1, y2⟩ := x4'.one
      have s4' := (se_slot c3.cz (by omega : z < z + 1) (by omega)).2.2.2
      obtain ⟨G, rr, ft⟩ : ∃ G, sh_rop (3 * b2) b3 b3 (e3 ++ (e' ++ gs)) u3 (mc3.T, sh_u2 mc3.I 41 14 (Int32.ofNat (sp3 + (b3 + b2))), mc3.J, mc3.s) (sf_193 (Int32.ofNat w') (Int32.ofNat (sh_te k2 b2 0)) (Int32.ofNat (sh_te k3 b3 0)) (mc3.T, sh_u2 mc3.I 41 14 (Int32.ofNat (sp3 + (b3 + b2))), mc3.J, mc3.s)) G ∧ sh_Ft (decide (k3 = 2)) b3 (fun j => G j p) nv := by
        by_cases hk0 : k3 = 0
        · have b31' : b3 = 1 := by unfold sh_typ at y3; omega
          have r := sh_193z c3.rs y1 (sh_94 x1) (show (e3 ++ (e' ++ gs)).length + 3 * b2 ≤ 65536 by omega) (by omega)
          subst hk0 b31'
          have e257 : Int32.ofNat (sh_te 0 1 0) = 257 := by decide
          rw [e257]
          exact ⟨_, r, fit0 rfl y2⟩
        · have r := sh_193 c3.rs y1 b1' (sh_94 x1) (show ¬ Int32.ofNat (sh_te k3 b3 0) = 257 from fun r => by
            have := (sh_te_I y3 (⟨Or.inl ⟨rfl, rfl⟩, by omega⟩ : sh_typ 0 1 0)).mp r
            omega) (sh_94 y3) (by omega)
          rw [sh_114 x1] at r
          exact ⟨_, r.more (by omega) (Nat.le_refl _) (fun _ _ _ => rfl), fit1 hk0 y2⟩
      obtain ⟨e4, u4, w4, m5, m3, r1, r2, r3, r4, r5, r6, r7, r8, r9, r10, r11⟩ := se_ropr (k := 1) c3 (by omega) (by omega) (Int32.ofNat (sh_te k3 b3 0)) rr
      rw [← List.append_assoc] at r3 r7
      refine se_fin1 (e2 := e4 ++ e3) (m3 := m3) (u3 := u4) (sp3 := sp3 + (b3 + b2)) (k3 := k3) (b3 := b3) (t3 := t0) (v3 := fun _ => nv) (mm3 := (mm3.T, sh_u2 (sh_u2 (sh_u2 mm3.I 66 43 (Int32.ofNat k3)) 66 44 (Int32.ofNat b3)) 66 42 (Int32.ofNat (sp3 + (b3 + b2))), sh_u2 mm3.J 66 46 nv, mm3.s)) Y hl a1 ?_ ?_ r3 ?_ (Or.inr ⟨y3, r5, w4, r6, se_V.of1 r7 ft⟩) h73 (by omega) ?_ (Z4.trans (w0.trans (sh_Rr.wi (by omega)))) se_Is ?_ (by omega) (by omega) p1 ?_ (by omega)
      · rw [cl2, p2]
        show se_go n2 (sh_bc (sf_117 (Int32.ofNat z) _) _) = _
        rw [s4', sh_bc_some, x3', r1, sh_bn_some, show (1 : Int32) = Int32.ofNat 1 from rfl, r2]
        rfl
      · rw [r11, se_In (by omega)]; exact at3
      · exact ((f13.trans (f3.less (u := u3) (z := z) (q := q) (fr := fr) (cl := cl) (Nat.le_refl _) (by omega) (Nat.le_refl _) (Nat.le_refl _) (Nat.le_refl _)) Z8 (Nat.le_refl _) (Nat.le_refl _) (Nat.le_refl _) (Nat.le_refl _))).trans r4 Z8 (by omega) (Nat.le_refl _) (Nat.le_refl _) (Nat.le_refl _)
      · rw [a2, md4, p3]
        rfl
      · exact ⟨by rw [se_In (by omega), sh_u2_idx (by omega), sh_u2_same], fun q => by rw [se_In (by omega), sh_u2_same], by rw [se_In (by omega), sh_u2_idx (by omega), sh_u2_idx (by omega)]; exact Z5.2.2.1, fun _ => se_Js, fun q => absurd q (by omega)⟩
      · have : (e4 ++ e3 ++ (e' ++ gs)).length = e4.length + (e3 ++ (e' ++ gs)).length := by rw [List.append_assoc, List.length_append]
        omega
end
