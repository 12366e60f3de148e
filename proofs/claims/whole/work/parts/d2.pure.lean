/-! EVALUATION: numbers and truths -/
theorem se_i64 {n : Nat} (h : n < 9223372036854775808) : (Int64.ofNat n).toInt = (n : Int) := Int64.toInt_ofNat_of_lt (by omega)
theorem se_lo {n : Nat} (h : n < 1000000000000000000) : sh_lo (Int64.ofNat n) := by unfold sh_lo; rw [se_i64 (by omega)]; omega
/-- before an expression: the states, the code's place, the model's stack -/
def se_P (N : Nat) (K : Nat → Int32) (P V : Nat → Nat) (A C : Nat → Nat → Int32) (p : Nat → Bool) (pf : Nat → Nat) (F c2 fm un e i n len d bb sg dq : Nat) (gs : sh_gL) (u z q B M fr cl sp cw ifs cd kn inn tp li : Nat) (ac : Bool) (mc mm : sh_X) : Prop := (sh_Txt N K P V) ∧ (se_c N K P V C gs u z q B fr cl sp cw ifs cd kn mc) ∧ (se_m N K P V A q B sp ifs cd kn inn tp li ac mm) ∧ (se_J N K V p gs u q B M tp cw ac mc mm) ∧ (mc.I 41 13 = Int32.ofNat i) ∧ (se_St fm un e mm) ∧ (mm.I 106 un = 0) ∧ (se_Bd P pf F n gs.length u z q fr cl sp cd kn tp li un dq d len bb sg) ∧ (B ≤ q) ∧ (C 28 10 = Int32.ofNat c2) ∧ (c2 ≤ 6000) ∧ (ifs ≤ bb ∧ inn ≤ sp)
theorem se_P.tx {N : Nat} {K : Nat → Int32} {P V : Nat → Nat} {A C : Nat → Nat → Int32} {p : Nat → Bool} {pf : Nat → Nat} {F c2 fm un e i n len d bb sg dq : Nat} {gs : sh_gL} {u z q B M fr cl sp cw ifs cd kn inn tp li : Nat} {ac : Bool} {mc mm : sh_X} (h : se_P N K P V A C p pf F c2 fm un e i n len d bb sg dq gs u z q B M fr cl sp cw ifs cd kn inn tp li ac mc mm) : sh_Txt N K P V := h.1
theorem se_P.hc {N : Nat} {K : Nat → Int32} {P V : Nat → Nat} {A C : Nat → Nat → Int32} {p : Nat → Bool} {pf : Nat → Nat} {F c2 fm un e i n len d bb sg dq : Nat} {gs : sh_gL} {u z q B M fr cl sp cw ifs cd kn inn tp li : Nat} {ac : Bool} {mc mm : sh_X} (h : se_P N K P V A C p pf F c2 fm un e i n len d bb sg dq gs u z q B M fr cl sp cw ifs cd kn inn tp li ac mc mm) : se_c N K P V C gs u z q B fr cl sp cw ifs cd kn mc := h.2.1
theorem se_P.hm {N : Nat} {K : Nat → Int32} {P V : Nat → Nat} {A C : Nat → Nat → Int32} {p : Nat → Bool} {pf : Nat → Nat} {F c2 fm un e i n len d bb sg dq : Nat} {gs : sh_gL} {u z q B M fr cl sp cw ifs cd kn inn tp li : Nat} {ac : Bool} {mc mm : sh_X} (h : se_P N K P V A C p pf F c2 fm un e i n len d bb sg dq gs u z q B M fr cl sp cw ifs cd kn inn tp li ac mc mm) : se_m N K P V A q B sp ifs cd kn inn tp li ac mm := h.2.2.1
theorem se_P.hJ {N : Nat} {K : Nat → Int32} {P V : Nat → Nat} {A C : Nat → Nat → Int32} {p : Nat → Bool} {pf : Nat → Nat} {F c2 fm un e i n len d bb sg dq : Nat} {gs : sh_gL} {u z q B M fr cl sp cw ifs cd kn inn tp li : Nat} {ac : Bool} {mc mm : sh_X} (h : se_P N K P V A C p pf F c2 fm un e i n len d bb sg dq gs u z q B M fr cl sp cw ifs cd kn inn tp li ac mc mm) : se_J N K V p gs u q B M tp cw ac mc mm := h.2.2.2.1
theorem se_P.hat {N : Nat} {K : Nat → Int32} {P V : Nat → Nat} {A C : Nat → Nat → Int32} {p : Nat → Bool} {pf : Nat → Nat} {F c2 fm un e i n len d bb sg dq : Nat} {gs : sh_gL} {u z q B M fr cl sp cw ifs cd kn inn tp li : Nat} {ac : Bool} {mc mm : sh_X} (h : se_P N K P V A C p pf F c2 fm un e i n len d bb sg dq gs u z q B M fr cl sp cw ifs cd kn inn tp li ac mc mm) : mc.I 41 13 = Int32.ofNat i := h.2.2.2.2.1
theorem se_P.st {N : Nat} {K : Nat → Int32} {P V : Nat → Nat} {A C : Nat → Nat → Int32} {p : Nat → Bool} {pf : Nat → Nat} {F c2 fm un e i n len d bb sg dq : Nat} {gs : sh_gL} {u z q B M fr cl sp cw ifs cd kn inn tp li : Nat} {ac : Bool} {mc mm : sh_X} (h : se_P N K P V A C p pf F c2 fm un e i n len d bb sg dq gs u z q B M fr cl sp cw ifs cd kn inn tp li ac mc mm) : se_St fm un e mm := h.2.2.2.2.2.1
theorem se_P.h106 {N : Nat} {K : Nat → Int32} {P V : Nat → Nat} {A C : Nat → Nat → Int32} {p : Nat → Bool} {pf : Nat → Nat} {F c2 fm un e i n len d bb sg dq : Nat} {gs : sh_gL} {u z q B M fr cl sp cw ifs cd kn inn tp li : Nat} {ac : Bool} {mc mm : sh_X} (h : se_P N K P V A C p pf F c2 fm un e i n len d bb sg dq gs u z q B M fr cl sp cw ifs cd kn inn tp li ac mc mm) : mm.I 106 un = 0 := h.2.2.2.2.2.2.1
theorem se_P.bd {N : Nat} {K : Nat → Int32} {P V : Nat → Nat} {A C : Nat → Nat → Int32} {p : Nat → Bool} {pf : Nat → Nat} {F c2 fm un e i n len d bb sg dq : Nat} {gs : sh_gL} {u z q B M fr cl sp cw ifs cd kn inn tp li : Nat} {ac : Bool} {mc mm : sh_X} (h : se_P N K P V A C p pf F c2 fm un e i n len d bb sg dq gs u z q B M fr cl sp cw ifs cd kn inn tp li ac mc mm) : se_Bd P pf F n gs.length u z q fr cl sp cd kn tp li un dq d len bb sg := h.2.2.2.2.2.2.2.1
theorem se_P.lB {N : Nat} {K : Nat → Int32} {P V : Nat → Nat} {A C : Nat → Nat → Int32} {p : Nat → Bool} {pf : Nat → Nat} {F c2 fm un e i n len d bb sg dq : Nat} {gs : sh_gL} {u z q B M fr cl sp cw ifs cd kn inn tp li : Nat} {ac : Bool} {mc mm : sh_X} (h : se_P N K P V A C p pf F c2 fm un e i n len d bb sg dq gs u z q B M fr cl sp cw ifs cd kn inn tp li ac mc mm) : B ≤ q := h.2.2.2.2.2.2.2.2.1
theorem se_P.c10 {N : Nat} {K : Nat → Int32} {P V : Nat → Nat} {A C : Nat → Nat → Int32} {p : Nat → Bool} {pf : Nat → Nat} {F c2 fm un e i n len d bb sg dq : Nat} {gs : sh_gL} {u z q B M fr cl sp cw ifs cd kn inn tp li : Nat} {ac : Bool} {mc mm : sh_X} (h : se_P N K P V A C p pf F c2 fm un e i n len d bb sg dq gs u z q B M fr cl sp cw ifs cd kn inn tp li ac mc mm) : C 28 10 = Int32.ofNat c2 := h.2.2.2.2.2.2.2.2.2.1
theorem se_P.c6 {N : Nat} {K : Nat → Int32} {P V : Nat → Nat} {A C : Nat → Nat → Int32} {p : Nat → Bool} {pf : Nat → Nat} {F c2 fm un e i n len d bb sg dq : Nat} {gs : sh_gL} {u z q B M fr cl sp cw ifs cd kn inn tp li : Nat} {ac : Bool} {mc mm : sh_X} (h : se_P N K P V A C p pf F c2 fm un e i n len d bb sg dq gs u z q B M fr cl sp cw ifs cd kn inn tp li ac mc mm) : c2 ≤ 6000 := h.2.2.2.2.2.2.2.2.2.2.1
theorem se_P.ifb {N : Nat} {K : Nat → Int32} {P V : Nat → Nat} {A C : Nat → Nat → Int32} {p : Nat → Bool} {pf : Nat → Nat} {F c2 fm un e i n len d bb sg dq : Nat} {gs : sh_gL} {u z q B M fr cl sp cw ifs cd kn inn tp li : Nat} {ac : Bool} {mc mm : sh_X} (h : se_P N K P V A C p pf F c2 fm un e i n len d bb sg dq gs u z q B M fr cl sp cw ifs cd kn inn tp li ac mc mm) : ifs ≤ bb ∧ inn ≤ sp := h.2.2.2.2.2.2.2.2.2.2.2
theorem se_P.mk {N : Nat} {K : Nat → Int32} {P V : Nat → Nat} {A C : Nat → Nat → Int32} {p : Nat → Bool} {pf : Nat → Nat} {F c2 fm un e i n len d bb sg dq : Nat} {gs : sh_gL} {u z q B M fr cl sp cw ifs cd kn inn tp li : Nat} {ac : Bool} {mc mm : sh_X} (tx : sh_Txt N K P V) (hc : se_c N K P V C gs u z q B fr cl sp cw ifs cd kn mc) (hm : se_m N K P V A q B sp ifs cd kn inn tp li ac mm) (hJ : se_J N K V p gs u q B M tp cw ac mc mm) (hat : mc.I 41 13 = Int32.ofNat i) (st : se_St fm un e mm) (h106 : mm.I 106 un = 0) (bd : se_Bd P pf F n gs.length u z q fr cl sp cd kn tp li un dq d len bb sg) (lB : B ≤ q) (c10 : C 28 10 = Int32.ofNat c2) (c6 : c2 ≤ 6000) (ifb : ifs ≤ bb ∧ inn ≤ sp) : se_P N K P V A C p pf F c2 fm un e i n len d bb sg dq gs u z q B M fr cl sp cw ifs cd kn inn tp li ac mc mm := ⟨tx, hc, hm, hJ, hat, st, h106, bd, lB, c10, c6, ifb⟩
section
variable {N : Nat} {K : Nat → Int32} {P V : Nat → Nat} {A C : Nat → Nat → Int32} {p : Nat → Bool} {pf : Nat → Nat} {F c2 fm un e i n len d bb sg dq : Nat} {gs : sh_gL} {u z q B M fr cl sp cw ifs cd kn inn tp li : Nat} {ac : Bool} {mc mm : sh_X}
theorem se_P.z1 (h : se_P N K P V A C p pf F c2 fm un e i n len d bb sg dq gs u z q B M fr cl sp cw ifs cd kn inn tp li ac mc mm) : z < 2001 ∧ q ≤ 1000 ∧ tp ≤ 64000 ∧ n < 999000 := by
  have a := h.bd.z2
  have b := h.bd.bb4
  have c := h.bd.q4
  have d := h.bd.t16
  have e := h.bd.n5
  omega
/-- the step at i -/
theorem se_P.at {a w x : Int32} (h : se_P N K P V A C p pf F c2 fm un e i n len d bb sg dq gs u z q B M fr cl sp cw ifs cd kn inn tp li ac mc mm) (hi : i < c2) (ha : C 36 i = a) (hw : C 37 i = w) (hx : C 38 i = x) : se_At n i c2 a w x mc :=
  se_At.mk (by have := h.z1; omega) h.hat (by rw [h.hc.cc 28 (by omega) (by omega)]; exact h.c10) hi h.c6 (by rw [h.hc.cc 36 (by omega) (by omega)]; exact ha) (by rw [h.hc.cc 37 (by omega) (by omega)]; exact hw) (by rw [h.hc.cc 38 (by omega) (by omega)]; exact hx)
/-- the class has pushed something, the model has its result: an expression of one step -/
theorem se_leaf {t k b nn tp2 : Nat} {v : Nat → Int64} {mc2 mm2 : sh_X} (h : se_P N K P V A C p pf F c2 fm un e i n len d bb sg dq gs u z q B M fr cl sp cw ifs cd kn inn tp li ac mc mm)
    (a1 : sf_78_10 (Int32.ofNat n) mc = sf_78_10 (Int32.ofNat (n + 1)) mc2) (a2 : mc2.I 41 13 = Int32.ofNat (i + 1)) (a3 : sf_294_10 (sq_279 dq) (Int32.ofNat fm) mm = sf_294_10 (sq_279 dq) (Int32.ofNat fm) mm2) (a4 : mm2.I 66 73 = Int32.ofNat un)
    (a5 : se_c N K P V C gs u (z + 1) q B fr cl sp cw ifs cd kn mc2) (a6 : se_m N K P V A q B sp ifs cd kn inn tp2 li ac mm2) (a7 : se_F u z q fr cl mc mc2) (a8 : se_G tp q un li mm mm2) (a9 : se_D p mc2 gs u z t k b nn v) (a10 : A 73 e = Int32.ofNat t) (a11 : t ≤ N) (a12 : se_R mm2 k b nn tp2 v) (a13 : tp ≤ tp2) (a14 : tp2 ≤ 16 * (bb + len + 1)) (a15 : 0 < nn → ∃ f, mm2.J 66 46 = Int64.ofNat f ∧ tp ≤ f ∧ f < 1000000) :
    se_X N K P V A C p (sq_279 dq) fm un e (i + 1) n len d bb gs u z q B fr cl sp cw ifs cd kn inn tp li ac mc mm := by
  have d4 := h.bd.d40
  exact Or.inr ⟨[], n + 1, mc2, mm2, u, sp, tp2, k, b, nn, v, t, a1, a2, a3, a4, a5, a6, a7, a8, a9, a10, a11, a12, Nat.le_refl _, Nat.le_refl _, h.bd.sp3, a13, a14, by omega, Nat.le_refl _, Nat.le_refl _, a15⟩
/-- the model's stack goes down by one -/
def se_dn (un : Nat) (m : sh_X) : sh_X := (m.T, sh_u2 m.I 66 73 (Int32.ofNat un), m.J, m.s)
theorem se_dnG {un un2 tp q li : Nat} {m : sh_X} : se_G tp q un2 li m (se_dn un m) := se_G.wI (by omega)
theorem se_dnI {un x : Nat} {m : sh_X} (h : x ≠ 66) : (se_dn un m).I x = m.I x := sh_u2_cell h
theorem se_dnF {un f : Nat} {m : sh_X} (h : f ≠ 73) : (se_dn un m).I 66 f = m.I 66 f := se_In (by omega)
theorem se_dn7 {un : Nat} {m : sh_X} : (se_dn un m).I 66 73 = Int32.ofNat un := se_Is
theorem se_dnm {un : Nat} {m : sh_X} (h : se_m N K P V A q B sp ifs cd kn inn tp li ac m) : se_m N K P V A q B sp ifs cd kn inn tp li ac (se_dn un m) := h.G (se_dnG (tp := 0) (q := 0) (un2 := 0) (li := 0)) ((se_dnF (by omega)).trans h.mtp) ((se_dnF (by omega)).trans h.msp)
theorem se_dq (h : se_P N K P V A C p pf F c2 fm un e i n len d bb sg dq gs u z q B M fr cl sp cw ifs cd kn inn tp li ac mc mm) : ∃ dd, dq = dd + 1 := ⟨dq - 1, by have := h.bd.dq_; have := h.bd.cd2; have := h.bd.d40; have := h.bd.kF; omega⟩
/-- a NUMBER -/
theorem se_num {t : Nat} (h : se_P N K P V A C p pf F c2 fm un e i n len d bb sg dq gs u z q B M fr cl sp cw ifs cd kn inn tp li ac mc mm) (hi : i < c2) (h73 : A 73 e = Int32.ofNat t) (ht : t ≤ N) (hk : K t = 2) (h72 : A 72 e = 1) (h36 : C 36 i = 19) (h37 : C 37 i = Int32.ofNat t) :
    se_X N K P V A C p (sq_279 dq) fm un e (i + 1) n len d bb gs u z q B fr cl sp cw ifs cd kn inn tp li ac mc mm := by
  obtain ⟨z1, q1, t1, n1⟩ := h.z1
  obtain ⟨dd, rfl⟩ := se_dq h
  have vt := h.tx.V2 t ht hk
  have le := h.st.le
  have at1 := h.at hi h36 h37 rfl
  have c1 := h.hc.nx (i := i + 1)
  obtain ⟨m2, b1, b2, b3, b4, b5⟩ := se_pushL c1 (by omega) (t := t) (se_lo vt)
  have f1 : se_F u z q fr cl mc (se_nx (i + 1) mc) := se_F.wI (by omega) (by omega) (by omega) (by omega) (by omega) (by omega)
  have m1 := se_dnm (un := un) h.hm
  refine se_leaf (v := fun _ => Int64.ofNat (V t)) (k := 3) (b := 0) (nn := 0) (tp2 := tp) (mc2 := m2) (mm2 := ((se_dn un mm).T, sh_u2 (sh_u2 (se_dn un mm).I 66 43 3) 66 45 0, sh_u2 (se_dn un mm).J 66 46 (Int64.ofNat (V t)), (se_dn un mm).s)) h ?_ ?_ ?_ ?_ b2 ?_ (f1.trans b3 (Nat.le_refl _) (Nat.le_refl _) (Nat.le_refl _) (Nat.le_refl _) (Nat.le_refl _)) ?_ (Or.inl ⟨rfl, rfl, b4⟩) h73 ht ?_ (Nat.le_refl _) (by have := h.bd.t16; omega) (fun q => absurd q (by omega))
  · rw [se_a19 at1 (sh_66 c1.wc h.tx.N4 ht (Or.inr (Or.inl hk))), b1]
    rfl
  · rw [b5]; exact se_nxA
  · rw [se_294p h.st (k := 1) (by rw [h.hm.aa 72 (by omega) (by omega)]; exact h72) (by decide)]
    have e1 : (sq_279 (dd + 1)).f313 (Int32.ofNat e) (se_dn un mm) = some (true, ((se_dn un mm).T, sh_u2 (sh_u2 (se_dn un mm).I 66 43 3) 66 45 0, sh_u2 (se_dn un mm).J 66 46 (Int64.ofNat (V t)), (se_dn un mm).s)) := by
      show sf_313 (sq_279 dd) (Int32.ofNat e) (se_dn un mm) = _
      unfold sf_313
      rw [if_pos (sh_okn' le (by omega)), sh_nIc (by omega), m1.aa 72 (by omega) (by omega), h72, if_pos rfl, if_pos (sh_okn' le (by omega)), m1.aa 73 (by omega) (by omega), h73, sh_We.nu (m1.we.same (m2 := ((se_dn un mm).T, sh_u2 (sh_u2 (se_dn un mm).I 66 43 3) 66 45 0, (se_dn un mm).J, (se_dn un mm).s)) (by rw [se_Ic (by omega), sh_u2_cell (by omega)]) (by rw [se_Ic (by omega), sh_u2_cell (by omega)]) (by rw [se_Ic (by omega), sh_u2_cell (by omega)]) (by rw [se_Ic (by omega), sh_u2_cell (by omega)])) ht hk, sh_bc_some]
    show se_ev _ _ ((sq_279 (dd + 1)).f313 (Int32.ofNat e) (se_dn un mm)) = _
    rw [e1]
    rfl
  · rw [se_In (by omega), sh_u2_idx (by omega)]; exact se_dn7
  · refine m1.G (tp0 := 0) (q0 := 0) (un0 := 0) (li0 := 0) ((((se_G.wI (by omega)).trans (se_G.wI (c := 66) (i := 45) (x := 0) (by omega)) (Nat.le_refl _) (Nat.le_refl _) (Nat.le_refl _) (Nat.le_refl _))).trans (se_G.wJ (c := 66) (i := 46) (x := Int64.ofNat (V t)) (by omega)) (Nat.le_refl _) (Nat.le_refl _) (Nat.le_refl _) (Nat.le_refl _)) ?_ ?_
    · rw [se_In (by omega), sh_u2_idx (by omega)]; exact m1.mtp
    · rw [se_In (by omega), sh_u2_idx (by omega)]; exact m1.msp
  · exact (((se_dnG.trans (se_G.wI (c := 66) (i := 43) (x := 3) (by omega)) (Nat.le_refl _) (Nat.le_refl _) (Nat.le_refl _) (Nat.le_refl _)).trans (se_G.wI (c := 66) (i := 45) (x := 0) (by omega)) (Nat.le_refl _) (Nat.le_refl _) (Nat.le_refl _) (Nat.le_refl _))).trans (se_G.wJ (c := 66) (i := 46) (x := Int64.ofNat (V t)) (by omega)) (Nat.le_refl _) (Nat.le_refl _) (Nat.le_refl _) (Nat.le_refl _)
  · exact ⟨by rw [se_In (by omega), sh_u2_same]; rfl, fun q => absurd rfl q, se_Is, fun _ => se_Js, fun q => absurd q (by omega)⟩
/-- true and false stand in the pool -/
theorem se_truth {gs : sh_gL} {u : Nat} {m : sh_X} (h : sh_RS gs u m) (b : Bool) : se_V p m gs u (sh_bn1 b) 0 1 0 (fun _ => if b = true then 1 else 0) := by
  obtain ⟨h1, h2, h3, h4, h5, h6⟩ := h
  refine se_V.of1 (F := fun _ _ => b) ⟨?_, fun j hj => ?_⟩ (sh_Ft_b rfl)
  · unfold sh_bn1; split <;> omega
  · have : j = 0 := by omega
    subst this
    cases b
    · exact ⟨0, h5, fun p => h1.v0 p⟩
    · exact ⟨1, h6, fun p => h1.v1 p⟩
end
