/-! EVALUATION: ~ and ! ahead -/
theorem sh_bt_cong {α β : Type} {x : Option (Option α × sh_X)} {t : sh_X → β} {f g : α → sh_X → Option β} (h : ∀ r m, x = some (some r, m) → f r m = g r m) : sh_bt x t f = sh_bt x t g := by
  cases x with
  | none => rfl
  | some q =>
    obtain ⟨r, m⟩ := q
    cases r with
    | none => rfl
    | some r => exact h r m rfl
/-- a bool turned -/
theorem se_1m {a : Nat → Bool} {v : Int64} (h : sh_Ft false 1 a v) : sh_Ft false 1 (fun j => !a j) (1 - v) := by
  have e : v = if a 0 = true then 1 else 0 := h.uniq (sh_Ft_b rfl)
  rw [e]
  have := sh_Ft_b (b := !a 0) (a := fun j => !a j) rfl
  cases ha : a 0
  · rw [ha] at this
    exact this
  · rw [ha] at this
    exact this
section
variable {N : Nat} {K : Nat → Int32} {P V : Nat → Nat} {A C : Nat → Nat → Int32} {p : Nat → Bool} {pf : Nat → Nat} {F c2 fm un e i j n len d bb sg dq : Nat} {gs : sh_gL} {u z q B M fr cl sp cw ifs cd kn inn tp li : Nat} {ac : Bool} {mc mm : sh_X} {Q : sh_Q279}
/-- the top's type, where it has one: wanted is another -/
theorem se_125T {k b n w : Nat} {v : Nat → Int64} {ty : Int32} {m : sh_X} (h : se_c N K P V C gs u (z + 1) q B fr cl sp cw ifs cd kn m) (hz : z < 2048) (hT : se_T p m gs u z k b n v) : sf_125 ty (Int32.ofNat w) m = if Int32.ofNat (sh_te k b n) = ty then some (some (), m) else sh_bt (sf_50 4 (Int32.ofNat w) m) (fun m => (none, m)) fun _ m13 => some (some (), m13) := by
  have z1 : Int32.ofNat (z + 1) - 1 = Int32.ofNat z := se_um1
  unfold sf_125
  rw [h.cz, z1, se_107T h (by omega) (by omega) (by rw [hT.2.1]; exact sh_te_0 hT.1)]
  show (sh_bc (sf_108 (m.I 48 4 - 1) m) _) = _
  rw [h.cz, z1, (se_slot h.cz (by omega) (by omega)).1, sh_bc_some, hT.2.1]
/-- '~' and '!' ahead -/
theorem se_flip {a t0 len2 : Nat} (ih : se_OK N K P V A C p pf F c2 kn a i (j - 1) (d + 1) len2) (h : se_P N K P V A C p pf F c2 fm un e i n len d bb sg dq gs u z q B M fr cl sp cw ifs cd kn inn tp li ac mc mm) (h72 : A 72 e = 9) (h73 : A 73 e = Int32.ofNat t0) (ht : t0 ≤ N) (h74 : A 74 e = Int32.ofNat a) (ha : a < 9000) (hd : d + 1 ≤ 40) (hl : len2 + 1 ≤ len) (hj : 0 < j) (hj2 : j ≤ c2) (hk : K t0 = 126 ∧ C 36 (j - 1) = 23 ∨ K t0 = 33 ∧ C 36 (j - 1) = 24) (h37 : C 37 (j - 1) = Int32.ofNat t0) :
    se_X N K P V A C p (sq_279 dq) fm un e j n len d bb gs u z q B fr cl sp cw ifs cd kn inn tp li ac mc mm := by
  have N4 := h.tx.N4
  have le := h.st.le
  obtain ⟨z1, q1, t1, n1⟩ := h.z1
  rcases se_one ih h (Or.inr h72) h74 ha hd hl with bad | ⟨e', n2, mc2, mm2, u2, sp2, tp2, k, b, nn, v, t, a1, a2, Y⟩
  · exact Or.inl bad
  rw [h72, if_neg (by decide)] at a2
  have c1 := Y.hc.nx (i := j - 1 + 1)
  have jj : j - 1 + 1 = j := by omega
  have f1 : se_F u2 (z + 1) q fr cl mc2 (se_nx (j - 1 + 1) mc2) := se_F.wI (by omega) (by omega) (by omega) (by omega) (by omega) (by omega)
  have m1 := se_dnm (un := un) Y.hm
  have m73 : (se_dn un mm2).I 73 e = Int32.ofNat t0 := by rw [m1.aa 73 (by omega) (by omega)]; exact h73
  have m74 : (se_dn un mm2).I 74 e = Int32.ofNat a := by rw [m1.aa 74 (by omega) (by omega)]; exact h74
  have m68 : (se_dn un mm2).I 68 t0 = K t0 := by
    rcases hk with hk | hk
    · rw [hk.1]; exact (m1.we.tk ht (by decide)).mpr hk.1
    · rw [hk.1]; exact (m1.we.tk ht (by decide)).mpr hk.1
  have D1 : se_D p (se_nx (j - 1 + 1) mc2) (e' ++ gs) u2 z t k b nn v := Y.hD.keep (e := []) f1 (by omega) (Nat.le_refl _)
  have R1 : se_R (se_dn un mm2) k b nn tp2 v := Y.hR.keep (se_dnF (by omega)) (se_dnF (by omega)) (se_dnF (by omega)) rfl rfl
  have zz : Int32.ofNat (z + 1) - 1 = Int32.ofNat z := se_um1
  have U1 : se_U mm (se_dn un mm2) := Y.hG.U.trans (se_dnG (tp := 0) (q := 0) (un2 := 0) (li := 0)).U
  have F1 := Y.hF.trans f1 Y.lu (by omega) (Nat.le_refl _) (Nat.le_refl _) (Nat.le_refl _)
  have hg := Y.g14
  have hu := Y.u5
  have bg := h.bd.g14
  have bu := h.bd.u5
  have mdl : sf_301 (Int32.ofNat e) (se_dn un mm2) = sh_bn (sf_298 (Int32.ofNat a) (se_dn un mm2)) fun r3 m13 => if r3 = true then if 0 < m13.I 66 45 then sf_301_133 (Int32.ofNat t0) m13 else if sh_okb (Int32.ofNat t0) 4002 = true then if m13.I 68 (Int32.toNatClampNeg (Int32.ofNat t0)) = 33 then if m13.I 66 43 = 0 then sf_301_145 (Int32.ofNat t0) m13 else sf_301_133 (Int32.ofNat t0) m13 else sf_301_145 (Int32.ofNat t0) m13 else none else some (false, m13) := by
    unfold sf_301
    rw [if_pos (sh_okn' le (by omega)), sh_nIc (by omega), m73, if_pos (sh_okn' (by omega) (by omega)), sh_nIc (by omega), m68, if_neg (by rcases hk with hk | hk <;> (rw [hk.1]; decide)), if_pos (sh_okn' le (by omega)), m74]
  have cls : sf_78_10 (Int32.ofNat n2) mc2 = se_go n2 (sh_bt (sf_107 (Int32.ofNat z) 160 (se_nx (j - 1 + 1) mc2)) (fun m => (none, m)) fun _ m11 => if K t0 = 33 then sh_bt (sf_125 257 (Int32.ofNat t0) m11) (fun m => (none, m)) fun _ m12 => sh_bt (sf_90 1 (Int32.ofNat t0) m12) (fun m => (none, m)) fun _ m13 => sh_bc (sf_117 (m13.I 48 4 - 1) m13) fun r4 => sh_bn (sf_169 r4 1 m13) fun r5 m15 => sh_bn (sf_167 1 257 r5 m15) fun _ m16 => some (some (), m16)
      else sh_bc (sf_108 (Int32.ofNat z) m11) fun r2 => if sf_123 r2 = true then sh_bt (sf_50 4 (Int32.ofNat t0) m11) (fun m => (none, m)) fun _ m14 => sf_168_43 (Int32.ofNat t0) (Int32.ofNat z) r2 m14 else sf_168_43 (Int32.ofNat t0) (Int32.ofNat z) r2 m11) := by
    rcases hk with hk | hk
    · rw [se_a23 (Y.st h (by omega) hk.2 h37 rfl)]
      unfold sf_168
      rw [c1.cz, zz]
      simp only [hk.1, show ¬ (126 : Int32) = 33 by decide, if_false]
    · rw [se_a24 (Y.st h (by omega) hk.2 h37 rfl)]
      unfold sf_170
      rw [c1.cz, zz]
      simp only [hk.1, if_true]
  rcases se_set32 (p := p) (e := a) N4 c1 (by omega) D1 Y.tN Y.sp3 (by omega) m1.we m1.msp R1 ha (by rw [m1.aa 73 (by omega) (by omega)]; exact Y.h73) with bad | ⟨mc3, mm3, k2, b2, g1, g2, e3, u3, sp3, Z1, Z2, Z3, Z4, Z5, Z6, Z7, Z8, Z9, Z10, Z11, Z12⟩
  · left
    obtain ⟨kk, tt, x, y, r1, r2, r3, r4, r5⟩ := bad
    refine ⟨kk, tt, x, y, r1, ?_, F1.thenW r3, ?_, U1.trans r5⟩
    · rw [a1, cls, r2]
      rfl
    · rw [a2, mdl, r4]
      rfl
  have k2l := Z3.1.k2
  have nn2 := Z3.1.n2
  have b64 := Z3.1.b2
  have b1' := Z3.1.b1
  have k2ne : ¬ k2 = 3 := by omega
  have F3 := F1.trans Z2 Y.lu (by omega) (Nat.le_refl _) (Nat.le_refl _) (Nat.le_refl _)
  have at3 : mc3.I 41 13 = Int32.ofNat j := by rw [Z7, se_nxA, jj]
  have w3 := Z4.we m1.we
  have m68' : mm3.I 68 t0 = K t0 := by rw [Z4.I 68 (by omega)]; exact m68
  have f13 : se_F u2 z q fr cl mc2 mc3 := (f1.less (u := u2) (z := z) (q := q) (fr := fr) (cl := cl) (Nat.le_refl _) (by omega) (Nat.le_refl _) (Nat.le_refl _) (Nat.le_refl _)).trans Z2 (Nat.le_refl _) (Nat.le_refl _) (Nat.le_refl _) (Nat.le_refl _) (Nat.le_refl _)
  rw [g2, sh_bn_some, if_pos rfl] at mdl
  rw [g1] at cls
  have e133 : sf_301_133 (Int32.ofNat t0) mm3 = some (false, sh_mft 4 (Int32.ofNat (P t0)) mm3) := by
    unfold sf_301_133
    rw [if_pos (sh_okn' (by omega) (by omega)), sh_nIc (by omega), w3.at ht, sh_252, sh_bn_some]
  rw [e133, Z5.2.2.1, Z5.1, if_pos (sh_okn' (by omega) (by omega)), sh_nIc (by omega), m68'] at mdl
  have k0 : (Int32.ofNat k2 = 0) ↔ k2 = 0 := sh_kI k2l (c := 0) (by omega)
  -- what is wanted of the type
  by_cases hbad : 0 < nn ∨ (K t0 = 33 ∧ ¬ k2 = 0)
  · left
    refine ⟨4, t0, mc3, mm3, ht, ?_, F3.W Z1.rs, ?_, U1.trans Z4.U⟩
    · rw [a1, cls]
      show se_go n2 (if K t0 = 33 then _ else _) = _
      rcases hk with hk | hk
      · rw [if_neg (by rw [hk.1]; decide), (se_slot Z1.cz (by omega : z < z + 1) (by omega)).1, sh_bc_some, Z3.2.1, sh_123 Z3.1, if_pos (decide_eq_true (by
          rcases hbad with q | q
          · exact q
          · rw [hk.1] at q; exact absurd q.1 (by decide))), se_fail N4 Z1 ht]
        rfl
      · rw [if_pos hk.1, se_125T Z1 (by omega) Z3, if_neg (show ¬ Int32.ofNat (sh_te k2 b2 nn) = 257 from fun r => by
          have := (sh_te_I Z3.1 (⟨Or.inl ⟨rfl, rfl⟩, by omega⟩ : sh_typ 0 1 0)).mp r
          rcases hbad with q | q <;> omega), se_fail N4 Z1 ht]
        rfl
    · rw [a2, mdl]
      by_cases hn : 0 < nn
      · rw [if_pos ((se_0lt (by omega)).mpr hn)]
        rfl
      · rw [if_neg (fun r => hn ((se_0lt (by omega)).mp r))]
        have q : K t0 = 33 ∧ ¬ k2 = 0 := by
          rcases hbad with q | q
          · exact absurd q hn
          · exact q
        rw [if_pos q.1, if_neg (fun r => q.2 (k0.mp r))]
        rfl
  · have n0 : nn = 0 := by omega
    subst n0
    rw [if_neg (by decide)] at mdl
    have md2 : sf_301 (Int32.ofNat e) (se_dn un mm2) = sf_301_145 (Int32.ofNat t0) mm3 := by
      rw [mdl]
      by_cases h33 : K t0 = 33
      · rw [if_pos h33, if_pos (k0.mpr (by
          rcases Nat.eq_zero_or_pos k2 with q | q
          · exact q
          · exact absurd (Or.inr ⟨h33, by omega⟩) hbad))]
      · rw [if_neg h33]
    have J0 := Z5.2.2.2.1 rfl
    obtain ⟨x1, x2, w, x3, x4⟩ := Z3
    -- the model's new value, and what it costs
    obtain ⟨nv, md3, fit⟩ : ∃ nv, sf_301_145 (Int32.ofNat t0) mm3 = (sh_bn (sf_292 (Int32.ofNat b2) (Int32.ofNat t0) (mm3.T, mm3.I, sh_u2 mm3.J 66 46 nv, mm3.s)) fun r m => some (r, m)) ∧ ∀ {a : Nat → Bool}, sh_Ft (decide (k2 = 2)) b2 a (v 0) → sh_Ft (decide (k2 = 2)) b2 (fun j => !a j) nv := by
      unfold sf_301_145
      rw [Z5.1, Z5.2.1 k2ne, J0]
      by_cases hk0 : k2 = 0
      · rw [if_pos (k0.mpr hk0)]
        have b1 : b2 = 1 := by unfold sh_typ at x1; omega
        subst hk0 b1
        exact ⟨1 - v 0, rfl, fun ha => se_1m ha⟩
      · rw [if_neg (fun r => hk0 (k0.mp r))]
        exact ⟨_, rfl, fun ha => sh_Ft_k x1.kd (fun j hj => sh_not_b b64 (fun i hi => ha.low b64 hi) hj)⟩
    have w0 : sh_Rr mm3 (mm3.T, mm3.I, sh_u2 mm3.J 66 46 nv, mm3.s) := sh_Rr.wj
    -- the class
    have cl2 : sf_78_10 (Int32.ofNat n2) mc2 = se_go n2 (sh_bt (sf_90 (Int32.ofNat b2) (Int32.ofNat t0) mc3) (fun m => (none, m)) fun _ m13 => sh_bc (sf_117 (Int32.ofNat z) m13) fun r4 => sh_bn (sf_169 r4 (Int32.ofNat b2) m13) fun r5 m15 => sh_bn (sf_167 1 (Int32.ofNat (sh_te k2 b2 0)) r5 m15) fun _ m16 => some (some (), m16)) := by
      rw [cls]
      show se_go n2 (if K t0 = 33 then _ else _) = _
      rcases hk with hk | hk
      · rw [if_neg (by rw [hk.1]; decide), (se_slot Z1.cz (by omega : z < z + 1) (by omega)).1, sh_bc_some, x2, sh_123 x1, if_neg (by decide)]
        unfold sf_168_43
        rw [sh_94 x1]
      · have hk0 : k2 = 0 := by
          rcases Nat.eq_zero_or_pos k2 with q | q
          · exact q
          · exact absurd (Or.inr ⟨hk.1, by omega⟩) hbad
        have b1 : b2 = 1 := by unfold sh_typ at x1; omega
        subst hk0 b1
        have e257 : Int32.ofNat (sh_te 0 1 0) = 257 := by decide
        rw [if_pos hk.1, se_125T Z1 (by omega) ⟨x1, x2, w, x3, x4⟩, if_pos e257, e257]
        show se_go n2 (sh_bt (sf_90 1 (Int32.ofNat t0) mc3) _ _) = _
        congr 1
        refine sh_bt_cong (fun r m hm => ?_)
        have cz : m.I 48 4 = Int32.ofNat (z + 1) := by
          by_cases hx : sp3 + 1 ≤ 3000
          · have e9 := se_90ok (x := 1) (i := 0) Z1 hx (Int32.ofNat t0)
            have := (Prod.mk.inj (Option.some.inj (hm.symm.trans e9))).2
            rw [this]
            exact (Z1.wsp (sp2 := sp3 + 1)).cz
          · have e9 := se_90no (x := 1) N4 Z1 (by omega) (by omega) ht
            exact absurd (Prod.mk.inj (Option.some.inj (hm.symm.trans e9))).1 (fun q => by cases q)
        rw [cz, zz]
        rfl
    rcases se_pay (x := b2) (i := t0) N4 Z1 (w0.we w3) Z6 ht (by omega) Z10 with bad | ⟨p1, p2, p3⟩
    · left
      obtain ⟨kk, tt, x, y, r1, r2, r3, r4, r5⟩ := bad
      refine ⟨kk, tt, x, y, r1, ?_, F3.thenW r3, ?_, ((U1.trans Z4.U).trans w0.U).trans r5⟩
      · rw [a1, cl2, r2]
        rfl
      · rw [a2, md2, md3, r4]
        rfl
    · have c3 := Z1.wsp (sp2 := sp3 + b2)
      have f3 : se_F u3 (z + 1) q fr cl mc3 (mc3.T, sh_u2 mc3.I 41 14 (Int32.ofNat (sp3 + b2)), mc3.J, mc3.s) := se_F.wI (by omega) (by omega) (by omega) (by omega) (by omega) (by omega)
      obtain ⟨_, _, w', x3', x4'⟩ := (show se_T p mc3 (e3 ++ (e' ++ gs)) u3 z k2 b2 0 v from ⟨x1, x2, w, x3, x4⟩).keep (e := []) f3 (by omega) (Nat.le_refl _)
      obtain ⟨FF, y1, y2⟩ := x4'.one
      have rr := sh_169 c3.rs y1 (by omega) (show (e3 ++ (e' ++ gs)).length + 1 * b2 ≤ 65536 by omega)
      obtain ⟨e4, u4, w4, m5, m3, r1, r2, r3, r4, r5, r6, r7, r8, r9, r10, r11⟩ := se_ropr (k := 1) c3 (by omega) (by omega) (Int32.ofNat (sh_te k2 b2 0)) rr
      have s4' := (se_slot c3.cz (by omega : z < z + 1) (by omega)).2.2.2
      rw [← List.append_assoc] at r3 r7
      refine se_fin1 (e2 := e4 ++ e3) (m3 := m3) (u3 := u4) (sp3 := sp3 + b2) (k3 := k2) (b3 := b2) (t3 := t0) (v3 := fun _ => nv) (mm3 := (mm3.T, sh_u2 mm3.I 66 42 (Int32.ofNat (sp3 + b2)), sh_u2 mm3.J 66 46 nv, mm3.s)) Y hl a1 ?_ ?_ r3 ?_ (Or.inr ⟨x1, r5, w4, r6, se_V.of1 r7 (fit y2)⟩) h73 ht ?_ (Z4.trans (w0.trans (sh_Rr.wi (by omega)))) se_Is ?_ (by omega) (by omega) p1 ?_ (by omega)
      · rw [cl2, p2]
        show se_go n2 (sh_bc (sf_117 (Int32.ofNat z) _) _) = _
        rw [s4', sh_bc_some, x3', r1, sh_bn_some, show (1 : Int32) = Int32.ofNat 1 from rfl, r2]
        rfl
      · rw [r11, se_In (by omega)]; exact at3
      · exact ((f13.trans (f3.less (u := u3) (z := z) (q := q) (fr := fr) (cl := cl) (Nat.le_refl _) (by omega) (Nat.le_refl _) (Nat.le_refl _) (Nat.le_refl _)) Z8 (Nat.le_refl _) (Nat.le_refl _) (Nat.le_refl _) (Nat.le_refl _))).trans r4 Z8 (by omega) (Nat.le_refl _) (Nat.le_refl _) (Nat.le_refl _)
      · rw [a2, md2, md3, p3]
        rfl
      · exact ⟨by rw [se_In (by omega)]; exact Z5.1, fun q => by rw [se_In (by omega)]; exact Z5.2.1 q, by rw [se_In (by omega)]; exact Z5.2.2.1, fun _ => se_Js, fun q => absurd q (by omega)⟩
      · have : (e4 ++ e3 ++ (e' ++ gs)).length = e4.length + (e3 ++ (e' ++ gs)).length := by rw [List.append_assoc, List.length_append]
        omega
end
