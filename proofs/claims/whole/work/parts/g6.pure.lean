/-! EVALUATION: statements: a name gets a value -/
section
variable {N : Nat} {K : Nat → Int32} {P V : Nat → Nat} {A C : Nat → Nat → Int32} {p : Nat → Bool} {gs : sh_gL} {u z q B M fr cl sp cw ifs cd kn inn tp li un : Nat} {ac : Bool} {mc mm : sh_X}
theorem se_J.set {ix k b n a w2 : Nat} {J2 : Nat → Nat → Int64} (h : se_J N K V p gs u q B M tp cw ac mc mm) (hq : ix < q) (ht : tp < 1000000) (hty : sh_typ k b n) (i94 : mm.I 94 ix = Int32.ofNat k) (i95 : mm.I 95 ix = Int32.ofNat b) (i96 : mm.I 96 ix = Int32.ofNat n) (i97 : mm.I 97 ix = Int32.ofNat a) (ha : a + sh_mx n ≤ tp) (i55 : mc.I 55 ix = Int32.ofNat (sh_te k b n)) (hJc : ∀ c, c ≠ 92 → J2 c = mm.J c) (hJo : ∀ j, j < a ∨ a + sh_mx n ≤ j → J2 92 j = mm.J 92 j) (hV : se_V p mc gs u w2 k b n (fun j => J2 92 (a + j))) :
    se_J N K V p gs u q B M tp cw ac (mc.T, sh_u2 mc.I 56 ix (Int32.ofNat w2), mc.J, mc.s) (mm.T, mm.I, J2, mm.s) := by
  have n32 := hty.n2
  have mx := sh_mx_1 n
  have sa : se_a mm ix = a := by unfold se_a; rw [i97]; exact sh_nIc (by omega)
  have se : se_e mm ix = a + sh_mx n := by unfold se_e; rw [sa, i96, sh_nIc (by omega)]
  have h0 : se_J N K V p gs u 0 0 0 0 cw ac mc mm := se_J.mk (fun i hi => absurd hi (by omega)) (fun i j _ hj => absurd hj (by omega)) (fun i _ hi => absurd hi (by omega)) (Nat.le_refl _) h.ac_ h.lcw h.ou
  have k0 : se_J N K V p ([] ++ gs) u 0 0 0 0 cw ac (mc.T, sh_u2 mc.I 56 ix (Int32.ofNat w2), mc.J, mc.s) (mm.T, mm.I, J2, mm.s) := h0.keep (e := []) (z := 0) (fr := 0) (cl := 0) (un := 0) (li := 0) (se_F.wI (by omega) (by omega) (by omega) (by omega) (by omega) (by omega)) (se_G.mk rfl rfl (fun _ _ _ => rfl) (fun x _ a _ _ _ => hJc x a) (fun _ _ => rfl) (fun j hj => absurd hj (by omega)) (fun j hj => absurd hj (by omega)) (fun j hj => absurd hj (by omega)) (fun j hj => absurd hj (by omega))) (Nat.le_refl _) (Nat.le_refl _)
  refine se_J.mk (fun i hi => ?_) h.sep h.nM h.lM k0.ac_ k0.lcw k0.ou
  obtain ⟨t, k', b', n', a', r1, r2, r3, r4, r5, r6, r7, r8, r9⟩ := h.nm i hi
  have mx' := sh_mx_1 n'
  have n'mx : n' ≤ sh_mx n' := by unfold sh_mx; split <;> omega
  by_cases e : i = ix
  · subst e
    refine ⟨t, k, b, n, a, r1, r2, ?_, r4, i94, i96, i97, ha, Or.inr ⟨hty, ?_, i95, w2, se_Is, ?_⟩⟩
    · rw [se_Ic (by omega)]; exact r3
    · rw [se_Ic (by omega)]; exact i55
    · exact hV.keep (e := []) (Nat.le_refl _) (fun j _ => by rw [se_Ic (by omega)])
  · have sa' : se_a mm i = a' := by unfold se_a; rw [r7]; exact sh_nIc (by omega)
    have se' : se_e mm i = a' + sh_mx n' := by unfold se_e; rw [sa', r6, sh_nIc (by omega)]
    have dis : a' + sh_mx n' ≤ a ∨ a + sh_mx n ≤ a' := by
      by_cases l : i < ix
      · left
        have := h.sep i ix l hq
        rw [se', sa] at this
        exact this
      · right
        have := h.sep ix i (by omega) hi
        rw [se, sa'] at this
        exact this
    refine ⟨t, k', b', n', a', r1, r2, by rw [se_Ic (by omega)]; exact r3, r4, r5, r6, r7, r8, ?_⟩
    rcases r9 with ⟨x1, x2, x3, x4, x5⟩ | ⟨x1, x2, x3, w, x4, x5⟩
    · exact Or.inl ⟨x1, x2, by rw [se_Ic (by omega)]; exact x3, by show mc.J 57 i = J2 98 i; rw [hJc 98 (by omega)]; exact x4, by show sh_lo (J2 98 i); rw [hJc 98 (by omega)]; exact x5⟩
    · refine Or.inr ⟨x1, by rw [se_Ic (by omega)]; exact x2, x3, w, by rw [se_In (by omega)]; exact x4, ?_⟩
      have y := x5.keep (e := []) (u2 := u) (m2 := (mc.T, sh_u2 mc.I 56 ix (Int32.ofNat w2), mc.J, mc.s)) (Nat.le_refl _) (fun j _ => by rw [se_Ic (by omega)])
      exact y.cong (fun j hj => (hJo (a' + j) (by omega)).symm)
/-- a value goes into a name of the class, as the condition says; the model pays likewise -/
theorem se_126 {ix k b n w w0 t : Nat} {v v0 : Nat → Int64} (hN : N ≤ 4000) (h : se_c N K P V C gs u z q B fr cl sp cw ifs cd kn mc) (hq : q ≤ 1024) (hix : ix < q) (hty : sh_typ k b n) (i55 : mc.I 55 ix = Int32.ofNat (sh_te k b n)) (i56 : mc.I 56 ix = Int32.ofNat w0) (hv : se_V p mc gs u w k b n v) (h0 : se_V p mc gs u w0 k b n v0) (hac : ac = sh_va p gs cw) (hcw : cw < gs.length) (ia : ifs = 0 → ac = true) (hifs : ifs < 1000000) (hw : sh_We N K P V mm) (h42 : mm.I 66 42 = Int32.ofNat sp) (ht : t ≤ N) (hsp : sp ≤ 3000) (hg : gs.length + 14 * (3000 - sp) ≤ 60000) (hu : 4 * u + 5 * (3000 - sp) ≤ 32000) :
    se_bad N P mc mm (sf_126 (Int32.ofNat ix) (Int32.ofNat t) (Int32.ofNat w) mc) (if 0 < ifs then sf_292 (Int32.ofNat (b * sh_mx n)) (Int32.ofNat t) mm else some (true, mm)) ∨
    ∃ e' u2 sp2 mc2 mm2 w2, sf_126 (Int32.ofNat ix) (Int32.ofNat t) (Int32.ofNat w) mc = some (some (), (mc2.T, sh_u2 mc2.I 56 ix (Int32.ofNat w2), mc2.J, mc2.s)) ∧ (if 0 < ifs then sf_292 (Int32.ofNat (b * sh_mx n)) (Int32.ofNat t) mm else some (true, mm)) = some (true, mm2) ∧ se_c N K P V C (e' ++ gs) u2 z q B fr cl sp2 cw ifs cd kn mc2 ∧ (∀ {z q fr cl : Nat}, se_F u z q fr cl mc mc2) ∧ mc2.I 41 13 = mc.I 41 13 ∧ se_V p mc2 (e' ++ gs) u2 w2 k b n (fun i => if ac = true then v i else v0 i) ∧ sh_Rr mm mm2 ∧ mm2.J = mm.J ∧ mm2.I 66 42 = Int32.ofNat sp2 ∧ u ≤ u2 ∧ sp ≤ sp2 ∧ sp2 ≤ 3000 ∧ (e' ++ gs).length + 14 * (3000 - sp2) ≤ gs.length + 14 * (3000 - sp) ∧ 4 * u2 + 5 * (3000 - sp2) ≤ 4 * u + 5 * (3000 - sp) := by
  have b1 := hty.b1
  have b2 := hty.b2
  have n32 := hty.n2
  have mx := sh_mx_le n32
  have mx1 := sh_mx_1 n
  have bm : b * sh_mx n ≤ 64 * 32 := Nat.mul_le_mul b2 mx
  have put : ∀ {gs2 : sh_gL} {uu sp2 : Nat} {m : sh_X} (w2 : Int32), se_c N K P V C gs2 uu z q B fr cl sp2 cw ifs cd kn m → sf_126_54 (Int32.ofNat ix) w2 m = some (some (), (m.T, sh_u2 m.I 56 ix w2, m.J, m.s)) := by
    intro gs2 uu sp2 m w2 hc
    have e : sf_121 (Int32.ofNat ix) m = some true := by
      unfold sf_121
      rw [if_neg (sh_nI0 (by omega)), hc.cq, if_pos ((sh_nIlt (by omega) (by omega)).mpr hix)]
    unfold sf_126_54 sf_133
    rw [e, sh_bc_some, if_pos rfl, if_pos (sh_okn' (by omega) (by omega)), sh_nIc (by omega), sh_bn_some]
  by_cases hi : 0 < ifs
  · rw [if_pos hi]
    have ns := se_nslot h.cq hix hq
    have cls : sf_126 (Int32.ofNat ix) (Int32.ofNat t) (Int32.ofNat w) mc = sh_bt (sf_90 (Int32.ofNat (b * sh_mx n)) (Int32.ofNat t) mc) (fun m => (none, m)) fun _ m13 => sh_bc (sf_127 (Int32.ofNat ix) m13) fun r4 => sh_bn (sf_128 (m13.I 41 15) (Int32.ofNat w) r4 (Int32.ofNat (b * sh_mx n)) m13) fun r5 m15 => sf_126_54 (Int32.ofNat ix) r5 m15 := by
      unfold sf_126
      rw [h.cif, if_pos ((se_0lt (by omega)).mpr hi), ns.1, sh_bc_some, i55, sh_96t hty]
    rw [cls]
    rcases se_pay (x := b * sh_mx n) (i := t) hN h hw h42 ht (by omega) hsp with bad | ⟨p1, p2, p3⟩
    · left
      obtain ⟨kk, tt, x, y, r1, r2, r3, r4, r5⟩ := bad
      exact ⟨kk, tt, x, y, r1, by rw [r2]; rfl, r3, r4, r5⟩
    · right
      have c1 := h.wsp (sp2 := sp + b * sh_mx n)
      have f1 : ∀ {z q fr cl : Nat}, se_F u z q fr cl mc (mc.T, sh_u2 mc.I 41 14 (Int32.ofNat (sp + b * sh_mx n)), mc.J, mc.s) := fun {z q fr cl} => se_F.wI (by omega) (by omega) (by omega) (by omega) (by omega) (by omega)
      obtain ⟨Fv, v1, v2⟩ := hv.keep (e := []) (u2 := u) (m2 := (mc.T, sh_u2 mc.I 41 14 (Int32.ofNat (sp + b * sh_mx n)), mc.J, mc.s)) (Nat.le_refl _) (fun j _ => by rw [se_Ic (by omega)])
      obtain ⟨F0, o1, o2⟩ := h0.keep (e := []) (u2 := u) (m2 := (mc.T, sh_u2 mc.I 41 14 (Int32.ofNat (sp + b * sh_mx n)), mc.J, mc.s)) (Nat.le_refl _) (fun j _ => by rw [se_Ic (by omega)])
      obtain ⟨e', w2, u2, m2, r1, r2, r3, r4, r5, r6, r7, r8⟩ := sh_128 (c := fun p => sh_va p gs cw) c1.rs hcw (fun _ => rfl) v1 o1 (by omega) (show ([] ++ gs).length + 3 * (b * sh_mx n) ≤ 65536 by show gs.length + _ ≤ _; omega)
      have c2 := c1.R r5 r6 r2
      have k41 : m2.I 41 = sh_X.I (mc.T, sh_u2 mc.I 41 14 (Int32.ofNat (sp + b * sh_mx n)), mc.J, mc.s) 41 := r5.I 41 (by omega) (by omega) (by omega) (by omega) (by omega) (by omega) (by omega) (by omega) (by omega)
      have ns1 := se_nslot c1.cq hix hq
      have i56' : sh_X.I (mc.T, sh_u2 mc.I 41 14 (Int32.ofNat (sp + b * sh_mx n)), mc.J, mc.s) 56 ix = Int32.ofNat w0 := by rw [se_Ic (by omega)]; exact i56
      refine ⟨e', u2, sp + b * sh_mx n, m2, _, w2, ?_, p3, c2, fun {z q fr cl} => f1.trans (se_F.R r5 r6) (Nat.le_refl _) (Nat.le_refl _) (Nat.le_refl _) (Nat.le_refl _) (Nat.le_refl _), ?_, ⟨_, r8, fun i hi2 => ?_⟩, sh_Rr.wi (by omega), rfl, se_Is, r3, by omega, p1, ?_, by omega⟩
      · rw [p2]
        show sh_bc (sf_127 (Int32.ofNat ix) _) _ = _
        rw [ns1.2.1, sh_bc_some, i56', c1.ccw, r1, sh_bn_some]
        exact put _ c2
      · rw [k41, se_In (by omega)]
      · have v2' := v2 i hi2
        have o2' := o2 i hi2
        cases ac with
        | true =>
          have cc : sh_va p gs cw = true := hac.symm
          simp only [cc, if_true]
          exact v2'
        | false =>
          have cc : sh_va p gs cw = false := hac.symm
          simp only [cc]
          exact o2'
      · have : (e' ++ gs).length = e'.length + gs.length := List.length_append
        omega
  · have hif0 : ifs = 0 := by omega
    rw [if_neg hi]
    right
    have act := ia hif0
    refine ⟨[], u, sp, mc, mm, w, ?_, rfl, h, fun {z q fr cl} => se_F.refl mc, rfl, ?_, sh_Rr.refl mm, rfl, h42, Nat.le_refl _, Nat.le_refl _, hsp, Nat.le_refl _, Nat.le_refl _⟩
    · unfold sf_126
      rw [h.cif, hif0, if_neg (by decide)]
      exact put _ h
    · rw [act]
      simp only [if_true]
      exact hv
end
