/-! EVALUATION: if: its condition -/
section
variable {N : Nat} {K : Nat → Int32} {P V : Nat → Nat} {A C : Nat → Nat → Int32} {p : Nat → Bool} {gs : sh_gL} {u z q B fr cl sp cw ifs cd kn : Nat} {mc mm m : sh_X}
theorem se_gop {f : (Nat → Bool) → Bool} {qq : Option (Int32 × sh_X)} (h : se_c N K P V C gs u z q B fr cl sp cw ifs cd kn m) (hq : sh_gop 1 gs m qq f) :
    ∃ e r m2, qq = some (Int32.ofNat r, m2) ∧ e.length ≤ 1 ∧ se_c N K P V C (e ++ gs) u z q B fr cl sp cw ifs cd kn m2 ∧ (∀ {z q fr cl : Nat}, se_F u z q fr cl m m2) ∧ r < (e ++ gs).length ∧ (∀ p, sh_va p (e ++ gs) r = f p) ∧ m2.I 41 = m.I 41 ∧ m2.I 42 = m.I 42 := by
  obtain ⟨e2, r, m2, a1, a2, a3, a4⟩ := (sh_RI_00 h.rs).op hq
  exact ⟨e2 ++ [], r, m2, a1, a2.le, h.R a2.fr a2.po a2.rs, fun {z q fr cl} => se_F.R a2.fr a2.po, a3, a4, a2.fr.I 41 (by omega) (by omega) (by omega) (by omega) (by omega) (by omega) (by omega) (by omega) (by omega), a2.fr.I 42 (by omega) (by omega) (by omega) (by omega) (by omega) (by omega) (by omega) (by omega) (by omega)⟩
/-- the model's if, its condition having been reckoned -/
noncomputable def se_ifm (Q : sh_Q279) (x1 x2 : Int32) (m14 : sh_X) : Option (Bool × sh_X) :=
  if sh_okb x1 9000 = true then
    sh_bn (sf_298 (m14.I 74 (Int32.toNatClampNeg x1)) m14) fun r5 m15 =>
    if r5 = true then
      if (m15.I 66 43) = 0 then
        if 0 < (m15.I 66 45) then
          sf_291_117 Q x1 m15
        else
          if (m15.J 66 46) = 0 then
            sf_291_153 Q x1 x2 false m15
          else
            sf_291_153 Q x1 x2 true m15
      else
        sf_291_117 Q x1 m15
    else
      some ((false, m15))
  else none
theorem se_b01 {b : Bool} : (if b = true then (1 : Int64) else 0) = 0 ↔ b = false := by cases b <;> decide
theorem se_if1 {Q : sh_Q279} {e a w t k b nn tp : Nat} {x2 : Int32} {v : Nat → Int64} (hN : N ≤ 4000) (h : se_c N K P V C gs u (z + 1) q B fr cl sp cw ifs cd kn mc) (hz : z < 2048) (hD : se_D p mc gs u z t k b nn v) (ht : t ≤ N) (hsp : sp ≤ 3000) (hu : 4 * u + 5 * (3000 - sp) ≤ 32000) (hg : gs.length + 14 * (3000 - sp) ≤ 60000) (hw : sh_We N K P V mm) (h42 : mm.I 66 42 = Int32.ofNat sp) (hR : se_R mm k b nn tp v) (he : e < 9000) (ha : a < 9000) (h73 : mm.I 73 a = Int32.ofNat t) (h74 : mm.I 74 e = Int32.ofNat a) (h78 : mm.I 78 a = Int32.ofNat w) (hwN : w ≤ N) (hfr : fr + 3 ≤ 1000) (hcw : cw < gs.length) (hifs : ifs ≤ 100000) :
    se_bad N P mc mm (sf_142 (Int32.ofNat w) mc) (se_ifm Q (Int32.ofNat e) x2 mm) ∨
    ∃ cb x cw2 e' u2 sp2 mc2 mm2, sf_142 (Int32.ofNat w) mc = some (some (), mc2) ∧ se_ifm Q (Int32.ofNat e) x2 mm = sf_291_153 Q (Int32.ofNat e) x2 cb mm2 ∧ se_c N K P V C (e' ++ gs) u2 z q B (fr + 3) cl sp2 cw2 (ifs + 1) cd kn mc2 ∧ se_F u z q fr cl mc mc2 ∧ mc2.I 41 13 = mc.I 41 13 ∧ mc2.I 42 fr = Int32.ofNat x ∧ mc2.I 42 (fr + 1) = Int32.ofNat cw ∧ mc2.I 42 (fr + 2) = Int32.ofNat q ∧ x < (e' ++ gs).length ∧ sh_va p (e' ++ gs) x = cb ∧ cw2 < (e' ++ gs).length ∧ sh_va p (e' ++ gs) cw2 = (sh_va p gs cw && cb) ∧ sh_Rr mm mm2 ∧ mm2.I 66 42 = Int32.ofNat sp2 ∧ u ≤ u2 ∧ sp ≤ sp2 ∧ sp2 ≤ 3000 ∧ (e' ++ gs).length + 14 * (3000 - sp2) ≤ gs.length + 14 * (3000 - sp) + 1 ∧ 4 * u2 + 5 * (3000 - sp2) ≤ 4 * u + 5 * (3000 - sp) := by
  have L := fun (x : Nat) => Nat.le_refl x
  have oe : sh_okb (Int32.ofNat e) 9000 = true := sh_okn' he (by omega)
  have oa : sh_okb (Int32.ofNat a) 9000 = true := sh_okn' ha (by omega)
  have z1 : Int32.ofNat (z + 1) - 1 = Int32.ofNat z := se_um1
  have md : ∀ bo m, sf_298 (Int32.ofNat a) mm = some (bo, m) → se_ifm Q (Int32.ofNat e) x2 mm = if bo = true then (if (m.I 66 43) = 0 then (if 0 < (m.I 66 45) then sf_291_117 Q (Int32.ofNat e) m else (if (m.J 66 46) = 0 then sf_291_153 Q (Int32.ofNat e) x2 false m else sf_291_153 Q (Int32.ofNat e) x2 true m)) else sf_291_117 Q (Int32.ofNat e) m) else some (false, m) := by
    intro bo m hb
    unfold se_ifm
    rw [if_pos oe, sh_nIc (by omega), h74, hb, sh_bn_some]
  rcases se_set32 (e := a) hN h hz hD ht hsp hu hw h42 hR ha h73 with bad | ⟨mc1, mm1, k2, b2, s1, s2, e1, u1, sp1, Z1, Z2, Z3, Z4, Z5, Z6, Z7, Z8, Z9, Z10, Z11, Z12⟩
  · left
    obtain ⟨kk, tt, x, y, q1, q2, q3, q4, q5⟩ := bad
    refine ⟨kk, tt, x, y, q1, ?_, q3, by rw [md _ _ q4]; rfl, q5⟩
    unfold sf_142
    rw [h.cz, z1, q2]
    rfl
  obtain ⟨T1, T2, w', T3, T4⟩ := Z3
  have k2l := T1.k2
  have n32 := T1.n2
  have sl := se_slot Z1.cz (by omega : z < z + 1) (by omega)
  have t0 : ¬ mc1.I 49 z = 0 := by rw [T2]; exact sh_te_0 T1
  have tb : sh_typ 0 1 0 := ⟨Or.inl ⟨rfl, rfl⟩, by omega⟩
  have e125 : sf_125 257 (Int32.ofNat w) mc1 = if k2 = 0 ∧ nn = 0 then some (some (), mc1) else some (none, sh_flt 4 (Int32.ofNat (P w)) mc1) := by
    unfold sf_125
    rw [Z1.cz, z1, se_107T Z1 (by omega) (by omega) t0 257]
    show (sh_bc (sf_108 ((mc1.I 48 4) - 1) mc1) _) = _
    rw [Z1.cz, z1, sl.1, sh_bc_some, T2, show (257 : Int32) = Int32.ofNat (sh_te 0 1 0) from rfl]
    by_cases q : k2 = 0 ∧ nn = 0
    · have bb : b2 = 1 := by have := T1.1; omega
      rw [if_pos q, if_pos ((sh_te_I T1 tb).mpr ⟨q.1, bb, q.2⟩)]
    · rw [if_neg q, if_neg (fun r => q ⟨((sh_te_I T1 tb).mp r).1, ((sh_te_I T1 tb).mp r).2.2⟩), se_fail hN Z1 hwN]
      rfl
  have cl1 : sf_142 (Int32.ofNat w) mc = sh_bt (sf_125 257 (Int32.ofNat w) mc1) (fun m => (none, m)) fun _ m12 => sh_bc (sf_117 ((m12.I 48 4) - 1) m12) fun r3 => sh_bc (sf_103 r3 m12) fun r4 => sh_bn (sf_118 1 m12) fun _ m15 => sh_bn (sf_143 r4 m15) fun _ m16 => sh_bn (sf_143 (m16.I 41 15) m16) fun _ m17 => sh_bn (sf_143 (m17.I 53 4) m17) fun _ m18 => sh_bn (sf_132 (m18.I 41 15) r4 m18) fun r9 m19 => some ((some (), ⟨m19.T, sh_u2 (sh_u2 m19.I 41 15 r9) 41 16 ((m19.I 41 16) + 1), m19.J, m19.s⟩)) := by
    unfold sf_142
    rw [h.cz, z1, s1]
    rfl
  have e43 : mm1.I 66 43 = Int32.ofNat k2 := Z5.1
  have e45 : mm1.I 66 45 = Int32.ofNat nn := Z5.2.2.1
  have k0 : Int32.ofNat k2 = 0 ↔ k2 = 0 := sh_kI k2l (c := 0) (by omega)
  by_cases hb : k2 = 0 ∧ nn = 0
  · obtain ⟨rfl, rfl⟩ := hb
    have bb : b2 = 1 := by have := T1.1; omega
    subst bb
    right
    obtain ⟨Fb, f1, f2⟩ := T4.one
    obtain ⟨x, x1, x2'⟩ := f1.2 0 (by omega)
    have fw := f1.1
    have e103 : sf_103 (Int32.ofNat w') mc1 = some (Int32.ofNat x) := sh_103 Z1.rs (by omega) x1
    obtain ⟨cb, hcb⟩ : ∃ cb, cb = Fb 0 p := ⟨_, rfl⟩
    have v0 : v 0 = if cb = true then 1 else 0 := by
      have g := f2
      rw [show decide ((0 : Nat) = 2) = false by decide] at g
      exact g.uniq (sh_Ft_b (b := cb) hcb.symm)
    have c2 := Z1.wz (z2 := z)
    have F2 : se_F u z q fr cl mc (mc1.T, sh_u2 mc1.I 48 4 (Int32.ofNat z), mc1.J, mc1.s) := Z2.trans (se_F.wI (u := u1) (z := z) (q := q) (fr := fr) (cl := cl) (by omega) (by omega) (by omega) (by omega) (by omega) (by omega)) Z8 (L _) (L _) (L _) (L _)
    have a13 : sh_X.I (mc1.T, sh_u2 mc1.I 48 4 (Int32.ofNat z), mc1.J, mc1.s) 41 13 = mc.I 41 13 := by rw [se_Ic (by omega)]; exact Z7
    obtain ⟨m2, hm2⟩ : ∃ m2 : sh_X, (mc1.T, sh_u2 mc1.I 48 4 (Int32.ofNat z), mc1.J, mc1.s) = m2 := ⟨_, rfl⟩
    rw [hm2] at c2 F2 a13
    obtain ⟨m3, p1, p2, p3, p4, p5⟩ := se_143 c2 (by omega) (Int32.ofNat x)
    obtain ⟨m4, q1, q2, q3, q4, q5⟩ := se_143 p2 (by omega) (m3.I 41 15)
    obtain ⟨m5, r1, r2, r3, r4, r5⟩ := se_143 q2 (by omega) (m4.I 53 4)
    have xl : x < (e1 ++ gs).length := x1.2
    have cl : cw < (e1 ++ gs).length := by rw [List.length_append]; omega
    have vx : sh_va p (e1 ++ gs) x = cb := by rw [x2', hcb]
    have vc : ∀ p, sh_va p (e1 ++ gs) cw = sh_va p gs cw := (sh_keep1 (e := e1) hcw (fun _ => rfl)).2
    have l1 : (e1 ++ gs).length < 65536 := by omega
    obtain ⟨e2, cw2, m6, t1, t2, t3, t4, t5, t6, t7, t8⟩ := se_gop r2 (sh_132 (m := m5) (x := cw) (y := x) r2.rs.1 cl xl l1)
    have c7 := (t3.w_cw (y := cw2)).w_ifs (y := ifs + 1)
    have ee : e2 ++ (e1 ++ gs) = (e2 ++ e1) ++ gs := by rw [List.append_assoc]
    have ce : sf_142 (Int32.ofNat w) mc = some (some (), (m6.T, sh_u2 (sh_u2 m6.I 41 15 (Int32.ofNat cw2)) 41 16 (Int32.ofNat (ifs + 1)), m6.J, m6.s)) := by
      rw [cl1, e125, if_pos ⟨rfl, rfl⟩]
      show (sh_bc (sf_117 ((mc1.I 48 4) - 1) mc1) _) = _
      rw [Z1.cz, z1, sl.2.2.2, sh_bc_some, T3, e103, sh_bc_some, show (1 : Int32) = Int32.ofNat 1 from rfl, se_118 Z1 (by omega) (by omega), sh_bn_some, show z + 1 - 1 = z by omega, hm2, p1, sh_bn_some, q1, sh_bn_some, r1, sh_bn_some, r2.ccw, t1, sh_bn_some, t3.cif, sh_nIadd]
    have c42 : ∀ y, sh_X.I (m6.T, sh_u2 (sh_u2 m6.I 41 15 (Int32.ofNat cw2)) 41 16 (Int32.ofNat (ifs + 1)), m6.J, m6.s) 42 y = m5.I 42 y := fun y => by rw [se_Ic (by omega), sh_u2_cell (by omega), t8]
    refine ⟨cb, x, cw2, e2 ++ e1, u1, sp1, _, mm1, ce, ?_, by rw [← ee]; exact c7, ?_, ?_, ?_, ?_, ?_, ?_, ?_, ?_, ?_, Z4, Z6, Z8, Z9, Z10, ?_, Z12⟩
    · rw [md _ _ s2, if_pos rfl, e43, if_pos (k0.mpr rfl), e45, if_neg (by decide), Z5.2.2.2.1 rfl, v0]
      cases cb with
      | true => rw [if_pos rfl, if_neg (by decide)]
      | false => rw [if_pos (by decide)]
    · have g1 : ∀ {z q fr cl : Nat}, se_F u1 z q fr cl m6 (m6.T, sh_u2 (sh_u2 m6.I 41 15 (Int32.ofNat cw2)) 41 16 (Int32.ofNat (ifs + 1)), m6.J, m6.s) := fun {z q fr cl} => (se_F.wI (c := 41) (i := 15) (x := Int32.ofNat cw2) (by omega) (by omega) (by omega) (by omega) (by omega) (by omega)).trans (se_F.wI (c := 41) (i := 16) (x := Int32.ofNat (ifs + 1)) (by omega) (by omega) (by omega) (by omega) (by omega) (by omega)) (L _) (L _) (L _) (L _) (L _)
      exact ((((F2.trans p3 Z8 (L _) (L _) (L _) (L _)).trans q3 Z8 (L _) (L _) (by omega) (L _)).trans r3 Z8 (L _) (L _) (by omega) (L _)).trans t4 Z8 (L _) (L _) (L _) (L _)).trans g1 Z8 (L _) (L _) (L _) (L _)
    · rw [se_In (by omega), sh_u2_idx (by omega), t7, r5, q5, p5, a13]
    · rw [c42, r3.fr_ fr (by omega), q3.fr_ fr (by omega), p4]
    · rw [c42, r3.fr_ (fr + 1) (by omega), q4, p2.ccw]
    · rw [c42, r4, q2.cq]
    · rw [← ee, List.length_append]; omega
    · rw [← ee, (sh_keep1 (e := e2) xl (fun _ => rfl)).2 p, vx]
    · rw [← ee]; exact t5
    · rw [← ee, t6 p, vc p, vx]
    · rw [← ee, List.length_append]; omega
  · left
    refine ⟨4, w, mc1, mm1, hwN, by rw [cl1, e125, if_neg hb]; rfl, Z2.W Z1.rs, ?_, Z4.U⟩
    have e117 : sf_291_117 Q (Int32.ofNat e) mm1 = some (false, sh_mft 4 (Int32.ofNat (P w)) mm1) := by
      unfold sf_291_117
      rw [if_pos oe, sh_nIc (by omega), show mm1.I 74 e = Int32.ofNat a by rw [Z4.I 74 (by omega)]; exact h74, if_pos oa, sh_nIc (by omega), show mm1.I 78 a = Int32.ofNat w by rw [Z4.I 78 (by omega)]; exact h78, if_pos (sh_okn' (by omega) (by omega)), sh_nIc (by omega), (Z4.we hw).at hwN, sh_252, sh_bn_some]
    rw [md _ _ s2, if_pos rfl, e43, e45, e117]
    by_cases q : k2 = 0
    · have n0 : 0 < nn := by omega
      rw [if_pos (k0.mpr q), if_pos ((se_0lt (by omega)).mpr n0)]
    · rw [if_neg (fun r => q (k0.mp r))]
end
