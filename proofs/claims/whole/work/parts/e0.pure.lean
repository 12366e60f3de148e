/-! EVALUATION: parts with two parts in them -/
section
variable {N : Nat} {K : Nat → Int32} {P V : Nat → Nat} {A C : Nat → Nat → Int32} {p : Nat → Bool} {pf : Nat → Nat} {F c2 fm un e i j n len d bb sg dq : Nat} {gs : sh_gL} {u z q B M fr cl sp cw ifs cd kn inn tp li : Nat} {ac : Bool} {mc mm : sh_X} {Q : sh_Q279}
/-- the first one is done -/
theorem se_fst {a k1 len2 : Nat} (ih : se_OK N K P V A C p pf F c2 kn a i k1 d len2) (h : se_P N K P V A C p pf F c2 fm un e i n len d bb sg dq gs u z q B M fr cl sp cw ifs cd kn inn tp li ac mc mm) (hk : A 72 e = 8 ∨ A 72 e = 10) (h74 : A 74 e = Int32.ofNat a) (ha : a < 9000) (hl : len2 + 1 ≤ len) :
    se_bad N P mc mm (sf_78_10 (Int32.ofNat n) mc) (sf_294_10 (sq_279 dq) (Int32.ofNat fm) mm) ∨
    ∃ e' n2 mc2 mm2 u2 sp2 tp2 k b nn v t, sf_78_10 (Int32.ofNat n) mc = sf_78_10 (Int32.ofNat n2) mc2 ∧ sf_294_10 (sq_279 dq) (Int32.ofNat fm) mm = sf_294_10 (sq_279 dq) (Int32.ofNat fm) mm2 ∧ se_St fm un e mm2 ∧ mm2.I 106 un = 1 ∧ se_Y N K P V A C p un a k1 n len2 d bb gs u z q B fr cl sp cw ifs cd kn inn tp li ac mc mm e' n2 mc2 mm2 u2 sp2 tp2 k b nn v t := by
  have un4 := h.bd.un4
  obtain ⟨m1, p1, p2, p3, p4, p5, p6⟩ := se_push1 h.st (a := a) (by rw [h.hm.aa 74 (by omega) (by omega)]; exact h74) ha (by omega)
  have s1 : sf_294_10 (sq_279 dq) (Int32.ofNat fm) mm = sf_294_10 (sq_279 dq) (Int32.ofNat fm) m1 := by
    rw [se_294b h.st (by rw [h.hm.aa 72 (by omega) (by omega)]; exact hk)]
    have e1 : sf_302 (Int32.ofNat e) mm = some (true, m1) := by
      unfold sf_302
      rw [h.st.h73, se_um1, if_pos (sh_okn' (by omega) (by omega)), sh_nIc (by omega), h.h106, if_pos rfl, if_pos (sh_okn' (by omega) (by omega))]
      exact p1
    rw [e1]
    rfl
  have P1 : se_P N K P V A C p pf F c2 fm (un + 1) a i n len2 d bb sg dq gs u z q B M fr cl sp cw ifs cd kn inn tp li ac mc m1 :=
    se_P.mk h.tx h.hc (p2.m h.hm) (h.hJ.keep (e := []) (se_F.refl (u := u) (z := z) (fr := fr) (cl := cl) mc) (p2.G (li := li)) (Nat.le_refl _) (Nat.le_refl _)) h.hat p3 p4 (h.bd.sub hl (Nat.le_refl _) h.bd.d40) h.lB h.c10 h.c6 h.ifb
  rcases (ih _ _ _ _ _ _ _ _ _ _ _ _ _ _ _ _ _ _ _ _ _ _ _ _ P1).out with bad | ⟨e', n2, mc2, mm2, u2, sp2, tp2, k, b, nn, v, t, a1, a2, a3, Y⟩
  · left
    rw [s1]
    exact bad.of (se_F.refl (u := 0) (z := 0) (q := 0) (fr := 0) (cl := 0) mc) (p2.G (tp := 0) (q := 0) (li := 0)).U
  · right
    have w := Y.hG.ws un (by omega)
    exact ⟨e', n2, mc2, mm2, u2, sp2, tp2, k, b, nn, v, t, a1, s1.trans a2, se_St.mk a3 h.st.lf h.st.lu (w.1.trans p5) h.st.le, w.2.1.trans p6, se_Y.mk Y.at_ Y.hc Y.hm Y.hF ((p2.G (tp := tp) (q := q) (li := li)).trans Y.hG (Nat.le_refl _) (Nat.le_refl _) (by omega) (Nat.le_refl _)) Y.hD Y.h73 Y.tN Y.hR Y.lu Y.lsp Y.sp3 Y.ltp Y.t16 Y.n5 Y.g14 Y.u5 Y.hL⟩
/-- the first one's value is kept, and the second one is put on the stack -/
theorem se_push2 {a : Nat} {m : sh_X} (h : se_St fm un e m) (h75 : m.I 75 e = Int32.ofNat a) (ha : a < 9000) (hl : un + 1 < 8990) :
    ∃ m2, sf_302_88 (Int32.ofNat e) (Int32.ofNat un) m = some (true, m2) ∧ se_Pk un m m2 ∧ se_St fm (un + 1) a m2 ∧ m2.I 106 (un + 1) = 0 ∧ m2.I 105 un = Int32.ofNat e ∧ m2.I 106 un = 2 ∧ m2.I 107 un = m.I 66 43 ∧ m2.I 108 un = m.I 66 44 ∧ m2.I 109 un = m.I 66 45 ∧ m2.J 111 un = m.J 66 46 := by
  have lu := h.lu
  have o : sh_okb (Int32.ofNat (un + 1)) 9000 = true := sh_okn' (by omega) (by omega)
  have o2 : sh_okb (Int32.ofNat un) 9000 = true := sh_okn' (by omega) (by omega)
  have lf := h.lf
  have h2 : sh_X.I (m.T, sh_u2 (sh_u2 (sh_u2 (sh_u2 m.I 106 un 2) 107 un (m.I 66 43)) 108 un (m.I 66 44)) 109 un (m.I 66 45), sh_u2 m.J 111 un (m.J 66 46), m.s) 66 73 = Int32.ofNat (un + 1) := by
    rw [se_Ic (by omega), sh_u2_cell (by omega), sh_u2_cell (by omega), sh_u2_cell (by omega)]; exact h.h73
  refine ⟨(m.T, sh_u2 (sh_u2 (sh_u2 (sh_u2 (sh_u2 (sh_u2 (sh_u2 m.I 106 un 2) 107 un (m.I 66 43)) 108 un (m.I 66 44)) 109 un (m.I 66 45)) 105 (un + 1) (Int32.ofNat a)) 106 (un + 1) 0) 66 73 (Int32.ofNat (un + 2)), sh_u2 m.J 111 un (m.J 66 46), m.s), ?_, ?_, ?_, ?_, ?_, ?_, ?_, ?_, ?_, se_Js⟩
  · unfold sf_302_88
    rw [if_pos o2, if_pos o2, if_pos o2, if_pos o2, if_pos o2, if_pos (sh_okn' h.le (by omega)), sh_nIc (by have := h.le; omega), h75, sh_nIc (by omega)]
    unfold sf_295
    rw [h2, if_pos o, if_pos o, sh_nIc (by omega), sh_nI1]
    rfl
  · refine se_Pk.mk rfl rfl (fun x hx => se_Jc hx) (fun x a1 a2 => ?_) (fun f hf => ?_) (fun j hj => ⟨?_, ?_, ?_, ?_, ?_, ?_, se_Jn (by omega)⟩)
    · rw [se_Ic a1, sh_u2_cell (by omega), sh_u2_cell (by omega), sh_u2_cell (by omega), sh_u2_cell (by omega), sh_u2_cell (by omega), sh_u2_cell (by omega)]
    · rw [se_In (by omega), sh_u2_cell (by omega), sh_u2_cell (by omega), sh_u2_cell (by omega), sh_u2_cell (by omega), sh_u2_cell (by omega), sh_u2_cell (by omega)]
    · rw [se_Ic (by omega), sh_u2_cell (by omega), sh_u2_idx (by omega), sh_u2_cell (by omega), sh_u2_cell (by omega), sh_u2_cell (by omega), sh_u2_cell (by omega)]
    · rw [se_Ic (by omega), sh_u2_idx (by omega), sh_u2_cell (by omega), sh_u2_cell (by omega), sh_u2_cell (by omega), sh_u2_cell (by omega), sh_u2_idx (by omega)]
    · rw [se_Ic (by omega), sh_u2_cell (by omega), sh_u2_cell (by omega), sh_u2_cell (by omega), sh_u2_cell (by omega), sh_u2_idx (by omega), sh_u2_cell (by omega)]
    · rw [se_Ic (by omega), sh_u2_cell (by omega), sh_u2_cell (by omega), sh_u2_cell (by omega), sh_u2_idx (by omega), sh_u2_cell (by omega), sh_u2_cell (by omega)]
    · rw [se_Ic (by omega), sh_u2_cell (by omega), sh_u2_cell (by omega), sh_u2_idx (by omega), sh_u2_cell (by omega), sh_u2_cell (by omega), sh_u2_cell (by omega)]
    · rw [se_Ic (by omega), sh_u2_cell (by omega), sh_u2_cell (by omega), sh_u2_cell (by omega), sh_u2_cell (by omega), sh_u2_cell (by omega), sh_u2_cell (by omega)]
  · exact se_St.mk se_Is (by omega) hl (by rw [se_Ic (by omega), sh_u2_cell (by omega), sh_u2_same]) ha
  · rw [se_Ic (by omega), sh_u2_same]
  · rw [se_Ic (by omega), sh_u2_cell (by omega), sh_u2_idx (by omega), sh_u2_cell (by omega), sh_u2_cell (by omega), sh_u2_cell (by omega), sh_u2_cell (by omega)]; exact h.h105
  · rw [se_Ic (by omega), sh_u2_idx (by omega), sh_u2_cell (by omega), sh_u2_cell (by omega), sh_u2_cell (by omega), sh_u2_cell (by omega), sh_u2_same]
  · rw [se_Ic (by omega), sh_u2_cell (by omega), sh_u2_cell (by omega), sh_u2_cell (by omega), sh_u2_cell (by omega), sh_u2_same]
  · rw [se_Ic (by omega), sh_u2_cell (by omega), sh_u2_cell (by omega), sh_u2_cell (by omega), sh_u2_same]
  · rw [se_Ic (by omega), sh_u2_cell (by omega), sh_u2_cell (by omega), sh_u2_same]
/-- the second one is done -/
theorem se_snd {a k1 j1 d2 len2 : Nat} (ih : se_OK N K P V A C p pf F c2 kn a k1 j1 d2 len2) (tx : sh_Txt N K P V) (hc : se_c N K P V C gs u z q B fr cl sp cw ifs cd kn mc) (hm : se_m N K P V A q B sp ifs cd kn inn tp li ac mm) (hJ : se_J N K V p gs u q B M tp cw ac mc mm) (hat : mc.I 41 13 = Int32.ofNat k1) (st : se_St fm un e mm) (h106 : mm.I 106 un = 1) (bd : se_Bd P pf F n gs.length u z q fr cl sp cd kn tp li (un + 1) dq d2 len2 bb sg) (lB : B ≤ q) (c10 : C 28 10 = Int32.ofNat c2) (c6 : c2 ≤ 6000) (ifb : ifs ≤ bb ∧ inn ≤ sp)
    (hk : A 72 e = 10 ∨ (A 72 e = 8 ∧ ¬ mm.I 66 43 = 3 ∧ ¬ mm.I 66 45 = 0)) (h75 : A 75 e = Int32.ofNat a) (ha : a < 9000) :
    se_bad N P mc mm (sf_78_10 (Int32.ofNat n) mc) (sf_294_10 (sq_279 dq) (Int32.ofNat fm) mm) ∨
    ∃ e' n2 mc2 mm2 u2 sp2 tp2 k b nn v t, sf_78_10 (Int32.ofNat n) mc = sf_78_10 (Int32.ofNat n2) mc2 ∧ sf_294_10 (sq_279 dq) (Int32.ofNat fm) mm = se_ev (sq_279 dq) (Int32.ofNat fm) (if A 72 e = 10 then sf_303 (Int32.ofNat e) (mm.I 66 43) (mm.I 66 44) (mm.I 66 45) (mm.J 66 46) (se_dn un mm2) else sf_309 (Int32.ofNat e) (mm.I 66 43) (mm.I 66 44) (mm.I 66 45) (Int64.toInt32 (mm.J 66 46)) (se_dn un mm2)) ∧ se_Y N K P V A C p un a j1 n len2 d2 bb gs u z q B fr cl sp cw ifs cd kn inn tp li ac mc mm e' n2 mc2 mm2 u2 sp2 tp2 k b nn v t := by
  have un4 := bd.un4
  have le := st.le
  have o2 : sh_okb (Int32.ofNat un) 9000 = true := sh_okn' (by omega) (by omega)
  have k810 : A 72 e = 8 ∨ A 72 e = 10 := by
    rcases hk with q | q
    · exact Or.inr q
    · exact Or.inl q.1
  obtain ⟨m1, p1, p2, p3, p4, p5, p6, p7, p8, p9, p10⟩ := se_push2 st (a := a) (by rw [hm.aa 75 (by omega) (by omega)]; exact h75) ha (by omega)
  have s1 : sf_294_10 (sq_279 dq) (Int32.ofNat fm) mm = sf_294_10 (sq_279 dq) (Int32.ofNat fm) m1 := by
    rw [se_294b st (by rw [hm.aa 72 (by omega) (by omega)]; exact k810)]
    have e1 : sf_302 (Int32.ofNat e) mm = some (true, m1) := by
      unfold sf_302
      rw [st.h73, se_um1, if_pos o2, sh_nIc (by omega), h106, if_neg (by decide), if_pos o2, if_pos rfl, if_pos (sh_okn' le (by omega)), sh_nIc (by omega), hm.aa 72 (by omega) (by omega), p1]
      rcases hk with q | ⟨q1, q2, q3⟩
      · rw [if_neg (by rw [q]; decide)]
      · rw [if_pos q1, if_neg q2, if_neg q3]
    rw [e1]
    rfl
  have P1 : se_P N K P V A C p pf F c2 fm (un + 1) a k1 n len2 d2 bb sg dq gs u z q B M fr cl sp cw ifs cd kn inn tp li ac mc m1 :=
    se_P.mk tx hc (p2.m hm) (hJ.keep (e := []) (se_F.refl (u := u) (z := z) (fr := fr) (cl := cl) mc) (p2.G (li := li)) (Nat.le_refl _) (Nat.le_refl _)) hat p3 p4 bd lB c10 c6 ifb
  rcases (ih _ _ _ _ _ _ _ _ _ _ _ _ _ _ _ _ _ _ _ _ _ _ _ _ P1).out with bad | ⟨e', n2, mc2, mm2, u2, sp2, tp2, k, b, nn, v, t, a1, a2, a3, Y⟩
  · left
    rw [s1]
    exact bad.of (se_F.refl (u := 0) (z := 0) (q := 0) (fr := 0) (cl := 0) mc) (p2.G (tp := 0) (q := 0) (li := 0)).U
  · right
    obtain ⟨w1, w2, w3, w4, w5, w6, w7⟩ := Y.hG.ws un (by omega)
    have st2 : se_St fm un e mm2 := se_St.mk a3 st.lf st.lu (w1.trans p5) le
    refine ⟨e', n2, mc2, mm2, u2, sp2, tp2, k, b, nn, v, t, a1, ?_, se_Y.mk Y.at_ Y.hc Y.hm Y.hF ((p2.G (tp := tp) (q := q) (li := li)).trans Y.hG (Nat.le_refl _) (Nat.le_refl _) (by omega) (Nat.le_refl _)) Y.hD Y.h73 Y.tN Y.hR Y.lu Y.lsp Y.sp3 Y.ltp Y.t16 Y.n5 Y.g14 Y.u5 Y.hL⟩
    rw [s1, a2, se_294b st2 (by rw [Y.hm.aa 72 (by omega) (by omega)]; exact k810)]
    congr 1
    unfold sf_302
    rw [a3, se_um1, if_pos o2, sh_nIc (by omega), w2.trans p6, if_neg (by decide), if_pos o2, if_neg (by decide), if_pos (sh_okn' le (by omega)), sh_nIc (by omega), Y.hm.aa 72 (by omega) (by omega), if_pos o2, if_pos o2, if_pos o2, if_pos o2, if_pos o2, if_pos o2, if_pos o2, if_pos o2, w3.trans p7, w4.trans p8, w5.trans p9, w7.trans p10]
    by_cases h10 : A 72 e = 10
    · rw [if_pos h10, if_pos h10]
      show (sh_bn (sf_303 _ _ _ _ _ (se_dn un mm2)) fun r2 m12 => some (r2, m12)) = _
      cases sf_303 (Int32.ofNat e) (mm.I 66 43) (mm.I 66 44) (mm.I 66 45) (mm.J 66 46) (se_dn un mm2) with
      | none => rfl
      | some r => rfl
    · rw [if_neg h10, if_neg h10]
      show (sh_bn (sf_309 _ _ _ _ _ (se_dn un mm2)) fun r2 m12 => some (r2, m12)) = _
      cases sf_309 (Int32.ofNat e) (mm.I 66 43) (mm.I 66 44) (mm.I 66 45) (Int64.toInt32 (mm.J 66 46)) (se_dn un mm2) with
      | none => rfl
      | some r => rfl
end
