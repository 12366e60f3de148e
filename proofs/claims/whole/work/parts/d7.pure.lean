/-! EVALUATION: signs ahead -/
section
variable {N : Nat} {K : Nat → Int32} {P V : Nat → Nat} {A C : Nat → Nat → Int32} {p : Nat → Bool} {pf : Nat → Nat} {F c2 fm un e i j n len d bb sg dq : Nat} {gs : sh_gL} {u z q B M fr cl sp cw ifs cd kn inn tp li : Nat} {ac : Bool} {mc mm : sh_X} {Q : sh_Q279}
theorem se_mR {m m2 : sh_X} {sp2 : Nat} (h : se_m N K P V A q B sp ifs cd kn inn tp li ac m) (r : sh_Rr m m2) (h42 : m2.I 66 42 = Int32.ofNat sp2) : se_m N K P V A q B sp2 ifs cd kn inn tp li ac m2 := h.G (se_G.R (tp := 0) (q := 0) (un := 0) (li := 0) r) ((r.F 41 (by omega) (by omega) (by omega) (by omega)).trans h.mtp) h42
/-- the step behind an expression -/
theorem se_Y.st {a j1 len2 d2 : Nat} {e' : sh_gL} {n2 : Nat} {mc2 mm2 : sh_X} {u2 sp2 tp2 k b nn : Nat} {v : Nat → Int64} {t : Nat} {x y w : Int32} (Y : se_Y N K P V A C p un a j1 n len2 d2 bb gs u z q B fr cl sp cw ifs cd kn inn tp li ac mc mm e' n2 mc2 mm2 u2 sp2 tp2 k b nn v t) (h : se_P N K P V A C p pf F c2 fm un e i n len d bb sg dq gs u z q B M fr cl sp cw ifs cd kn inn tp li ac mc mm) (hj : j1 < c2) (hx : C 36 j1 = x) (hw : C 37 j1 = w) (hy : C 38 j1 = y) : se_At n2 j1 c2 x w y mc2 :=
  se_At.mk (by have := h.bd.n5; have := Y.n5; have := h.z1; have := Y.sp3; omega) Y.at_ (by rw [Y.hc.cc 28 (by omega) (by omega)]; exact h.c10) hj h.c6 (by rw [Y.hc.cc 36 (by omega) (by omega)]; exact hx) (by rw [Y.hc.cc 37 (by omega) (by omega)]; exact hw) (by rw [Y.hc.cc 38 (by omega) (by omega)]; exact hy)
/-- a part with one part in it is done -/
theorem se_fin1 {a j1 len2 : Nat} {e' e2 : sh_gL} {n2 : Nat} {mc2 mm2 m3 mm3 : sh_X} {u2 sp2 tp2 k b nn : Nat} {v : Nat → Int64} {t u3 sp3 k3 b3 t3 : Nat} {v3 : Nat → Int64} (Y : se_Y N K P V A C p un a j1 n len2 (d + 1) bb gs u z q B fr cl sp cw ifs cd kn inn tp li ac mc mm e' n2 mc2 mm2 u2 sp2 tp2 k b nn v t) (hl : len2 + 1 ≤ len)
    (a1 : sf_78_10 (Int32.ofNat n) mc = sf_78_10 (Int32.ofNat n2) mc2) (a2 : sf_78_10 (Int32.ofNat n2) mc2 = sf_78_10 (Int32.ofNat (n2 + 1)) m3) (a3 : m3.I 41 13 = Int32.ofNat j) (a4 : se_c N K P V C (e2 ++ (e' ++ gs)) u3 (z + 1) q B fr cl sp3 cw ifs cd kn m3) (a5 : se_F u2 z q fr cl mc2 m3) (a6 : se_D p m3 (e2 ++ (e' ++ gs)) u3 z t3 k3 b3 0 v3) (a7 : A 73 e = Int32.ofNat t3) (a8 : t3 ≤ N)
    (b1 : sf_294_10 Q (Int32.ofNat fm) mm = sf_294_10 Q (Int32.ofNat fm) mm3) (b2 : sh_Rr (se_dn un mm2) mm3) (b3' : mm3.I 66 42 = Int32.ofNat sp3) (b4 : se_R mm3 k3 b3 0 tp2 v3) (c1 : u2 ≤ u3) (c2' : sp2 ≤ sp3) (c3 : sp3 ≤ 3000) (c4 : (e2 ++ (e' ++ gs)).length + 14 * (3000 - sp3) ≤ (e' ++ gs).length + 14 * (3000 - sp2)) (c5 : 4 * u3 + 5 * (3000 - sp3) ≤ 4 * u2 + 5 * (3000 - sp2)) :
    se_X N K P V A C p Q fm un e j n len d bb gs u z q B fr cl sp cw ifs cd kn inn tp li ac mc mm := by
  have g1 : se_G tp q un li mm mm3 := (Y.hG.trans (se_dnG (un := un)) (Nat.le_refl _) (Nat.le_refl _) (Nat.le_refl _) (Nat.le_refl _)).trans (se_G.R b2) (Nat.le_refl _) (Nat.le_refl _) (Nat.le_refl _) (Nat.le_refl _)
  have x1 := Y.lu
  have x2 := Y.lsp
  have x3 := Y.g14
  have x4 := Y.u5
  have x5 := Y.n5
  have x6 := Y.t16
  refine se_Y.X (e' := e2 ++ e') (n2 := n2 + 1) (mc2 := m3) (mm2 := mm3) (u2 := u3) (sp2 := sp3) (tp2 := tp2) (k := k3) (b := b3) (nn := 0) (v := v3) (t := t3) ?_ (a1.trans a2) b1 ((b2.F 73 (by omega) (by omega) (by omega) (by omega)).trans se_dn7)
  rw [← List.append_assoc] at a4 a6 c4
  exact se_Y.mk a3 a4 (se_mR (se_dnm Y.hm) b2 b3') (Y.hF.trans a5 x1 (Nat.le_refl _) (Nat.le_refl _) (Nat.le_refl _) (Nat.le_refl _)) g1 a6 a7 a8 b4 (by omega) (by omega) c3 Y.ltp (by omega) (by omega) (by omega) (by omega) (fun q => absurd q (by omega))
theorem sh_lo_neg {v : Int64} (h : sh_lo v) : sh_lo (-v) := by
  unfold sh_lo at h ⊢
  rw [Int64.toInt_neg, Int.bmod_eq_of_le (by omega) (by omega)]
  omega
/-- '-' ahead -/
theorem se_neg {a t0 len2 : Nat} (ih : se_OK N K P V A C p pf F c2 kn a i (j - 1) (d + 1) len2) (h : se_P N K P V A C p pf F c2 fm un e i n len d bb sg dq gs u z q B M fr cl sp cw ifs cd kn inn tp li ac mc mm) (h72 : A 72 e = 9) (h73 : A 73 e = Int32.ofNat t0) (ht : t0 ≤ N) (h74 : A 74 e = Int32.ofNat a) (ha : a < 9000) (hd : d + 1 ≤ 40) (hl : len2 + 1 ≤ len) (hj : 0 < j) (hj2 : j ≤ c2) (hk : K t0 = 45) (h36 : C 36 (j - 1) = 22) (h37 : C 37 (j - 1) = Int32.ofNat t0) :
    se_X N K P V A C p (sq_279 dq) fm un e j n len d bb gs u z q B fr cl sp cw ifs cd kn inn tp li ac mc mm := by
  have N4 := h.tx.N4
  have le := h.st.le
  obtain ⟨z1, q1, t1, n1⟩ := h.z1
  rcases se_one ih h (Or.inr h72) h74 ha hd hl with bad | ⟨e', n2, mc2, mm2, u2, sp2, tp2, k, b, nn, v, t, a1, a2, Y⟩
  · exact Or.inl bad
  rw [h72, if_neg (by decide)] at a2
  have at1 := Y.st h (by omega) h36 h37 rfl
  have c1 := Y.hc.nx (i := j - 1 + 1)
  have jj : j - 1 + 1 = j := by omega
  have f1 : se_F u2 (z + 1) q fr cl mc2 (se_nx (j - 1 + 1) mc2) := se_F.wI (by omega) (by omega) (by omega) (by omega) (by omega) (by omega)
  have m1 := se_dnm (un := un) Y.hm
  have m73 : (se_dn un mm2).I 73 e = Int32.ofNat t0 := by rw [m1.aa 73 (by omega) (by omega)]; exact h73
  have m68 : (se_dn un mm2).I 68 t0 = 45 := (m1.we.tk ht (by decide)).mpr hk
  have D1 : se_D p (se_nx (j - 1 + 1) mc2) (e' ++ gs) u2 z t k b nn v := Y.hD.keep (e := []) f1 (by omega) (Nat.le_refl _)
  have R1 : se_R (se_dn un mm2) k b nn tp2 v := Y.hR.keep (se_dnF (by omega)) (se_dnF (by omega)) (se_dnF (by omega)) rfl rfl
  have zz : Int32.ofNat (z + 1) - 1 = Int32.ofNat z := se_um1
  obtain ⟨s1, s2, s3, s4⟩ := se_slot c1.cz (by omega : z < z + 1) (by omega)
  have U1 : se_U mm (se_dn un mm2) := Y.hG.U.trans (se_dnG (tp := 0) (q := 0) (un2 := 0) (li := 0)).U
  have F1 := Y.hF.trans f1 Y.lu (by omega) (Nat.le_refl _) (Nat.le_refl _) (Nat.le_refl _)
  have mdl : sf_301 (Int32.ofNat e) (se_dn un mm2) = if (se_dn un mm2).I 66 43 = 3 then some (true, ((se_dn un mm2).T, (se_dn un mm2).I, sh_u2 (se_dn un mm2).J 66 46 (-((se_dn un mm2).J 66 46)), (se_dn un mm2).s)) else if (se_dn un mm2).I 66 43 = 0 then sf_301_51 (Int32.ofNat t0) (se_dn un mm2) else if 0 < (se_dn un mm2).I 66 45 then sf_301_51 (Int32.ofNat t0) (se_dn un mm2) else sh_bn (sf_292 ((se_dn un mm2).I 66 44) (Int32.ofNat t0) ((se_dn un mm2).T, (se_dn un mm2).I, sh_u2 (se_dn un mm2).J 66 46 (sf_288 ((se_dn un mm2).I 66 43) ((se_dn un mm2).I 66 44) (-((se_dn un mm2).J 66 46))), (se_dn un mm2).s)) fun r2 m12 => some (r2, m12) := by
    unfold sf_301
    rw [if_pos (sh_okn' le (by omega)), sh_nIc (by omega), m73, if_pos (sh_okn' (by omega) (by omega)), sh_nIc (by omega), m68, if_pos rfl]
  have e51 : sf_301_51 (Int32.ofNat t0) (se_dn un mm2) = some (false, sh_mft 4 (Int32.ofNat (P t0)) (se_dn un mm2)) := by
    unfold sf_301_51
    rw [if_pos (sh_okn' (by omega) (by omega)), sh_nIc (by omega), m1.we.at ht, sh_252, sh_bn_some]
  rcases D1.lo with ⟨rfl, rfl, hL⟩ | ⟨k2, hT⟩
  · -- loose
    have c2' := c1.wz (z2 := z + 1 - 1)
    obtain ⟨m3, b1, b2, b3, b4, b5⟩ := se_pushL c2' (by omega) (t := t0) (sh_lo_neg hL.2.2.2)
    refine se_fin1 (e2 := []) (m3 := m3) (u3 := u2) (sp3 := sp2) (k3 := 3) (b3 := 0) (t3 := t0) (v3 := fun _ => -(v 0)) (mm3 := ((se_dn un mm2).T, (se_dn un mm2).I, sh_u2 (se_dn un mm2).J 66 46 (-(v 0)), (se_dn un mm2).s)) Y hl a1 ?_ ?_ b2 ?_ (Or.inl ⟨rfl, rfl, b4⟩) h73 ht ?_ sh_Rr.wj m1.msp ?_ (Nat.le_refl _) (Nat.le_refl _) Y.sp3 (Nat.le_refl _) (Nat.le_refl _)
    · rw [se_a22 at1]
      unfold sf_165
      rw [c1.cz, zz, s1, sh_bc_some, hL.1, if_pos rfl, s3, sh_bc_some, hL.2.2.1, show (1 : Int32) = Int32.ofNat 1 from rfl, se_118 c1 (by omega) (by omega), sh_bn_some, b1]
      rfl
    · rw [b5, se_Ic (by omega), se_nxA, jj]
    · exact ((f1.less (u := u2) (z := z) (q := q) (fr := fr) (cl := cl) (Nat.le_refl _) (by omega) (Nat.le_refl _) (Nat.le_refl _) (Nat.le_refl _)).trans (se_F.wI (c := 48) (i := 4) (x := Int32.ofNat (z + 1 - 1)) (by omega) (by omega) (by omega) (by omega) (by omega) (by omega)) (Nat.le_refl _) (Nat.le_refl _) (Nat.le_refl _) (Nat.le_refl _) (Nat.le_refl _)).trans b3 (Nat.le_refl _) (by omega) (Nat.le_refl _) (Nat.le_refl _) (Nat.le_refl _)
    · rw [a2, mdl, R1.1, if_pos (by decide), R1.2.2.2.1 rfl]
      rfl
    · exact ⟨R1.1, fun q => absurd rfl q, R1.2.2.1, fun _ => se_Js, fun q => absurd q (by omega)⟩
  · have k3 : ¬ Int32.ofNat k = 3 := fun r => by have := (sh_kI k2 (c := 3) (by omega)).mp r; omega
    have nn2 := hT.1.n2
    have b64 := hT.1.b2
    have b1' := hT.1.b1
    rw [R1.1, if_neg k3, e51, R1.2.1 (by omega), R1.2.2.1] at mdl
    have cls : sf_78_10 (Int32.ofNat n2) mc2 = se_go n2 (if (decide (¬ k = 0 ∧ nn = 0)) = true then sf_165_69 (Int32.ofNat t0) (Int32.ofNat z) (Int32.ofNat (sh_te k b nn)) (se_nx (j - 1 + 1) mc2) else sh_bt (sf_50 4 (Int32.ofNat t0) (se_nx (j - 1 + 1) mc2)) (fun m => (none, m)) fun _ m16 => sf_165_69 (Int32.ofNat t0) (Int32.ofNat z) (Int32.ofNat (sh_te k b nn)) m16) := by
      rw [se_a22 at1]
      unfold sf_165
      rw [c1.cz, zz, s1, sh_bc_some, hT.2.1, if_neg (sh_te_0 hT.1), sh_113 hT.1]
    by_cases hok : ¬ k = 0 ∧ nn = 0
    · obtain ⟨hk0, rfl⟩ := hok
      rw [if_pos (decide_eq_true ⟨hk0, rfl⟩)] at cls
      rw [if_neg (show ¬ Int32.ofNat k = 0 from fun r => hk0 ((sh_kI k2 (c := 0) (by omega)).mp r)), if_neg (by decide), R1.2.2.2.1 rfl] at mdl
      have w0 : sh_Rr (se_dn un mm2) ((se_dn un mm2).T, (se_dn un mm2).I, sh_u2 (se_dn un mm2).J 66 46 (sf_288 (Int32.ofNat k) (Int32.ofNat b) (-(v 0))), (se_dn un mm2).s) := sh_Rr.wj
      rcases se_pay (x := b) (i := t0) N4 c1 (w0.we m1.we) m1.msp ht (by omega) Y.sp3 with bad | ⟨g1, g2, g3⟩
      · left
        obtain ⟨kk, tt, x, y, r1, r2, r3, r4, r5⟩ := bad
        refine ⟨kk, tt, x, y, r1, ?_, F1.thenW r3, ?_, (U1.trans w0.U).trans r5⟩
        · rw [a1, cls]
          unfold sf_165_69
          rw [sh_94 hT.1, r2]
          rfl
        · rw [a2, mdl, r4]
          rfl
      · have c3 := c1.wsp (sp2 := sp2 + b)
        have f3 : se_F u2 (z + 1) q fr cl (se_nx (j - 1 + 1) mc2) ((se_nx (j - 1 + 1) mc2).T, sh_u2 (se_nx (j - 1 + 1) mc2).I 41 14 (Int32.ofNat (sp2 + b)), (se_nx (j - 1 + 1) mc2).J, (se_nx (j - 1 + 1) mc2).s) := se_F.wI (by omega) (by omega) (by omega) (by omega) (by omega) (by omega)
        obtain ⟨x1, x2, w, x3, x4⟩ := hT.keep (e := []) f3 (by omega) (Nat.le_refl _)
        obtain ⟨FF, y1, y2⟩ := x4.one
        have hg := Y.g14
        have hu := Y.u5
        have bg := h.bd.g14
        have bu := h.bd.u5
        have rr := sh_166 (t := 1) (ft := fun _ => true) c3.rs y1 (by have := c3.rs.1.1; omega) (fun p => c3.rs.1.v1 p) (by omega) (show (e' ++ gs).length + 3 * b ≤ 65536 by omega)
        obtain ⟨e2, u3, w3, m5, m3, r1, r2, r3, r4, r5, r6, r7, r8, r9, r10, r11⟩ := se_ropr (k := 1) c3 (by omega) (by omega) (Int32.ofNat (sh_te k b 0)) rr
        have s4' := (se_slot c3.cz (by omega : z < z + 1) (by omega)).2.2.2
        have fit : sh_Ft (decide (k = 2)) b (fun j => Bool.xor (Bool.xor (FF j p) true) (sh_ng (fun j => FF j p) true j)) (sf_288 (Int32.ofNat k) (Int32.ofNat b) (-(v 0))) := sh_Ft_k hT.1.kd (fun j hj => sh_neg_b b64 (fun i hi => y2.low b64 hi) hj)
        refine se_fin1 (e2 := e2) (m3 := m3) (u3 := u3) (sp3 := sp2 + b) (k3 := k) (b3 := b) (t3 := t0) (v3 := fun _ => sf_288 (Int32.ofNat k) (Int32.ofNat b) (-(v 0))) (mm3 := ((se_dn un mm2).T, sh_u2 (se_dn un mm2).I 66 42 (Int32.ofNat (sp2 + b)), sh_u2 (se_dn un mm2).J 66 46 (sf_288 (Int32.ofNat k) (Int32.ofNat b) (-(v 0))), (se_dn un mm2).s)) Y hl a1 ?_ ?_ r3 ?_ (Or.inr ⟨hT.1, r5, w3, r6, se_V.of1 r7 fit⟩) h73 ht ?_ (w0.trans (sh_Rr.wi (by omega))) se_Is ?_ r8 (by omega) g1 ?_ (by omega)
        · rw [cls]
          unfold sf_165_69
          rw [sh_94 hT.1, g2]
          show se_go n2 (sh_bc (sf_117 (Int32.ofNat z) _) _) = _
          rw [s4', sh_bc_some, x3, show (1 : Int32) = Int32.ofNat 1 from rfl, r1, sh_bn_some, r2]
          rfl
        · rw [r11, se_In (by omega), se_nxA, jj]
        · exact ((f1.trans f3 (Nat.le_refl _) (Nat.le_refl _) (Nat.le_refl _) (Nat.le_refl _) (Nat.le_refl _)).less (u := u2) (z := z) (q := q) (fr := fr) (cl := cl) (Nat.le_refl _) (by omega) (Nat.le_refl _) (Nat.le_refl _) (Nat.le_refl _)).trans r4 (Nat.le_refl _) (by omega) (Nat.le_refl _) (Nat.le_refl _) (Nat.le_refl _)
        · rw [a2, mdl, g3]
          rfl
        · exact ⟨by rw [se_In (by omega)]; exact R1.1, fun _ => by rw [se_In (by omega)]; exact R1.2.1 (by omega), by rw [se_In (by omega)]; exact R1.2.2.1, fun _ => se_Js, fun q => absurd q (by omega)⟩
        · rw [List.length_append]
          omega
    · left
      refine ⟨4, t0, se_nx (j - 1 + 1) mc2, se_dn un mm2, ht, ?_, F1.W c1.rs, ?_, U1⟩
      · rw [a1, cls, if_neg (by rw [decide_eq_false hok]; decide), se_fail N4 c1 ht]
        rfl
      · rw [a2, mdl]
        by_cases hk0 : k = 0
        · rw [if_pos (show Int32.ofNat k = 0 by rw [hk0]; rfl)]
          rfl
        · rw [if_neg (show ¬ Int32.ofNat k = 0 from fun r => hk0 ((sh_kI k2 (c := 0) (by omega)).mp r)), if_pos ((se_0lt (by omega)).mpr (by omega))]
          rfl
end
