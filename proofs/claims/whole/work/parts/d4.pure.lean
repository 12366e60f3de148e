/-! EVALUATION: names -/
theorem se_64c {n : Nat} (h : n < 2147483648) : Int32.toInt64 (Int32.ofNat n) = Int64.ofNat n := by
  rw [← Int64.toInt_inj, Int32.toInt_toInt64, sh_nI h, se_i64 (by omega)]
theorem se_c64 {n : Nat} (h : n < 2147483648) : Int64.toInt32 (Int64.ofNat n) = Int32.ofNat n := sh_l32 h
section
variable {N : Nat} {K : Nat → Int32} {P V : Nat → Nat} {A C : Nat → Nat → Int32} {p : Nat → Bool} {pf : Nat → Nat} {F c2 fm un e i n len d bb sg dq : Nat} {gs : sh_gL} {u z q B M fr cl sp cw ifs cd kn inn tp li : Nat} {ac : Bool} {mc mm : sh_X}
/-- what a name of the class has -/
theorem se_nslot {m : sh_X} {j : Nat} (hq : m.I 53 4 = Int32.ofNat q) (hj : j < q) (h2 : q ≤ 1024) : sf_120 (Int32.ofNat j) m = some (m.I 55 j) ∧ sf_127 (Int32.ofNat j) m = some (m.I 56 j) ∧ sf_152 (Int32.ofNat j) m = some (m.J 57 j) := by
  have e : sf_121 (Int32.ofNat j) m = some true := by
    unfold sf_121
    rw [if_neg (sh_nI0 (by omega)), hq, if_pos ((sh_nIlt (by omega) (by omega)).mpr hj)]
  have o : sh_okb (Int32.ofNat j) 1024 = true := sh_okn' (by omega) (by omega)
  unfold sf_120 sf_127 sf_152
  rw [e, sh_bc_some, sh_bc_some, sh_bc_some, if_pos rfl, if_pos rfl, if_pos rfl, if_pos o, if_pos o, if_pos o, sh_nIc (by omega)]
  exact ⟨rfl, rfl, rfl⟩
theorem se_ne1 {j : Nat} (h : j < 2147483648) : ¬ Int32.ofNat j = -1 := fun r => by
  have := congrArg Int32.toInt r
  rw [sh_nI h] at this
  have e : (-1 : Int32).toInt = -1 := by decide
  omega
/-- a NAME in an expression -/
theorem se_nam {t : Nat} (h : se_P N K P V A C p pf F c2 fm un e i n len d bb sg dq gs u z q B M fr cl sp cw ifs cd kn inn tp li ac mc mm) (hi : i < c2) (h73 : A 73 e = Int32.ofNat t) (ht : t ≤ N) (hk : K t = 1) (h72 : A 72 e = 4) (h36 : C 36 i = 21) (h37 : C 37 i = Int32.ofNat t) (hlen : 1 ≤ len) :
    se_X N K P V A C p (sq_279 dq) fm un e (i + 1) n len d bb gs u z q B fr cl sp cw ifs cd kn inn tp li ac mc mm := by
  obtain ⟨z1, q1, t1, n1⟩ := h.z1
  obtain ⟨dd, rfl⟩ := se_dq h
  have N4 := h.tx.N4
  have le := h.st.le
  have at1 := h.at hi h36 h37 rfl
  have c1 := h.hc.nx (i := i + 1)
  have f1 : se_F u z q fr cl mc (se_nx (i + 1) mc) := se_F.wI (by omega) (by omega) (by omega) (by omega) (by omega) (by omega)
  have m1 := se_dnm (un := un) h.hm
  have g1 : se_G tp q un li mm (se_dn un mm) := se_dnG
  have J1 : se_J N K V p gs u q B M tp cw ac (se_nx (i + 1) mc) (se_dn un mm) := h.hJ.keep (e := []) f1 g1 (Nat.le_refl _) (Nat.le_refl _)
  have ev : sf_294_10 (sq_279 (dd + 1)) (Int32.ofNat fm) mm = se_ev (sq_279 (dd + 1)) (Int32.ofNat fm) (sf_314 (Int32.ofNat e) (se_dn un mm)) := by
    rw [se_294p h.st (k := 4) (by rw [h.hm.aa 72 (by omega) (by omega)]; exact h72) (by decide)]
    have e1 : (sq_279 (dd + 1)).f313 (Int32.ofNat e) (se_dn un mm) = sf_314 (Int32.ofNat e) (se_dn un mm) := by
      show sf_313 (sq_279 dd) (Int32.ofNat e) (se_dn un mm) = _
      unfold sf_313
      rw [if_pos (sh_okn' le (by omega)), sh_nIc (by omega), m1.aa 72 (by omega) (by omega), h72, if_neg (by decide), if_neg (by decide), if_pos (by decide)]
      cases sf_314 (Int32.ofNat e) (se_dn un mm) with
      | none => rfl
      | some r => rfl
    show se_ev _ _ ((sq_279 (dd + 1)).f313 (Int32.ofNat e) (se_dn un mm)) = _
    rw [e1]
  have m73 : (se_dn un mm).I 73 e = Int32.ofNat t := by rw [m1.aa 73 (by omega) (by omega)]; exact h73
  have n83 := sh_83 h.tx c1.wc ht hk
  rcases se_find h.tx c1 m1 J1 h.lB (by omega) ht hk with ⟨j, j1, j2, j3, j4⟩ | ⟨j3, j4⟩
  · obtain ⟨t2, k, b, nn, a, r1, r2, r3, r4, r5, r6, r7, r8, r9⟩ := J1.nm j j2
    obtain ⟨s1, s2, s3⟩ := se_nslot c1.cq j2 (by omega)
    have oj : sh_okb (Int32.ofNat j) 3000 = true := sh_okn' (by omega) (by omega)
    have cls : sf_78_10 (Int32.ofNat n) mc = se_go n (sf_164_30 (Int32.ofNat t) (Int32.ofNat j) (se_nx (i + 1) mc)) := by
      rw [se_a21 at1]
      unfold sf_164
      rw [n83, sh_bc_some, j3, sh_bc_some, if_neg (se_ne1 (by omega))]
    rcases r9 with ⟨k3, nn0, l1, l2, l3⟩ | ⟨y1, y2, y3, w, y4, y5⟩
    · -- loose
      subst k3 nn0
      obtain ⟨m2, b1, b2, b3, b4, b5⟩ := se_pushL c1 (by omega) (t := t) l3
      refine se_leaf (v := fun _ => (se_dn un mm).J 98 j) (k := 3) (b := 0) (nn := 0) (tp2 := tp) (mc2 := m2) (mm2 := ((se_dn un mm).T, sh_u2 (sh_u2 (sh_u2 (se_dn un mm).I 66 43 (Int32.ofNat 3)) 66 44 ((se_dn un mm).I 95 j)) 66 45 (Int32.ofNat 0), sh_u2 (se_dn un mm).J 66 46 ((se_dn un mm).J 98 j), (se_dn un mm).s)) h ?_ ?_ ?_ ?_ b2 (se_resm m1) (f1.trans b3 (Nat.le_refl _) (Nat.le_refl _) (Nat.le_refl _) (Nat.le_refl _) (Nat.le_refl _)) (g1.trans se_res (Nat.le_refl _) (Nat.le_refl _) (Nat.le_refl _) (Nat.le_refl _)) (Or.inl ⟨rfl, rfl, b4⟩) h73 ht ?_ (Nat.le_refl _) (by have := h.bd.t16; omega) (fun q => absurd q (by omega))
      · rw [cls]
        unfold sf_164_30
        rw [s1, sh_bc_some, l1, if_pos rfl, s3, sh_bc_some, l2, b1]
        rfl
      · rw [b5]; exact se_nxA
      · rw [ev]
        unfold sf_314
        rw [if_pos (sh_okn' le (by omega)), sh_nIc (by omega), m73, j4, sh_bc_some, if_neg (sh_nI0 (by omega)), if_pos oj, if_pos oj, if_pos oj, sh_nIc (by omega), r5, if_pos (by decide), if_pos oj, r6]
        unfold sf_314_91
        rw [se_Is, if_pos (by decide)]
        rfl
      · rw [se_In (by omega), sh_u2_idx (by omega), sh_u2_idx (by omega)]; exact se_dn7
      · exact ⟨by rw [se_In (by omega), sh_u2_idx (by omega), sh_u2_same], fun q => absurd rfl q, se_Is, fun _ => se_Js, fun q => absurd q (by omega)⟩
    · -- of a type
      have k2 := y1.k2
      have nn2 := y1.n2
      obtain ⟨m2, b1, b2, b3, b4, b5, b6, b7⟩ := se_push c1 (by omega) (Int32.ofNat (sh_te k b nn)) (Int32.ofNat w)
      have vv : se_T p m2 gs u z k b nn (fun j => (se_dn un mm).J 92 (a + j)) := ⟨y1, b4, w, b5, y5.keep (e := []) (Nat.le_refl _) (fun j _ => by rw [b6])⟩
      have cl2 : sf_78_10 (Int32.ofNat n) mc = sf_78_10 (Int32.ofNat (n + 1)) m2 := by
        rw [cls]
        unfold sf_164_30
        rw [s1, sh_bc_some, y2, if_neg (sh_te_0 y1), sh_bc_some, s2, sh_bc_some, y4, b1]
        rfl
      have md : sf_314 (Int32.ofNat e) (se_dn un mm) = sf_314_91 (Int32.ofNat j) ((se_dn un mm).J 92 a) ((se_dn un mm).T, sh_u2 (sh_u2 (sh_u2 (se_dn un mm).I 66 43 (Int32.ofNat k)) 66 44 (Int32.ofNat b)) 66 45 (Int32.ofNat nn), (se_dn un mm).J, (se_dn un mm).s) := by
        have mx := sh_mx_1 nn
        unfold sf_314
        rw [if_pos (sh_okn' le (by omega)), sh_nIc (by omega), m73, j4, sh_bc_some, if_neg (sh_nI0 (by omega)), if_pos oj, if_pos oj, if_pos oj, sh_nIc (by omega), r5, if_neg (show ¬ Int32.ofNat k = 3 from fun r => by have := (sh_kI k2 (c := 3) (by omega)).mp r; omega), if_pos oj, r7, if_pos (sh_okn' (by omega) (by omega)), r6, y3, sh_nIc (by omega)]
      by_cases hn : nn = 0
      · subst hn
        refine se_leaf (v := fun j => (se_dn un mm).J 92 (a + j)) (k := k) (b := b) (nn := 0) (tp2 := tp) (mc2 := m2) (mm2 := ((se_dn un mm).T, sh_u2 (sh_u2 (sh_u2 (se_dn un mm).I 66 43 (Int32.ofNat k)) 66 44 (Int32.ofNat b)) 66 45 (Int32.ofNat 0), sh_u2 (se_dn un mm).J 66 46 ((se_dn un mm).J 92 a), (se_dn un mm).s)) h cl2 (by rw [b7]; exact se_nxA) ?_ ?_ b2 (se_resm m1) (f1.trans b3 (Nat.le_refl _) (Nat.le_refl _) (Nat.le_refl _) (Nat.le_refl _) (Nat.le_refl _)) (g1.trans se_res (Nat.le_refl _) (Nat.le_refl _) (Nat.le_refl _) (Nat.le_refl _)) (Or.inr vv) h73 ht ?_ (Nat.le_refl _) (by have := h.bd.t16; omega) (fun q => absurd q (by omega))
        · rw [ev, md]
          unfold sf_314_91
          rw [se_Is, if_pos (by decide)]
          rfl
        · rw [se_In (by omega), sh_u2_idx (by omega), sh_u2_idx (by omega)]; exact se_dn7
        · exact ⟨by rw [se_In (by omega), sh_u2_idx (by omega), sh_u2_same], fun _ => by rw [se_In (by omega), sh_u2_same], se_Is, fun _ => se_Js, fun q => absurd q (by omega)⟩
      · have mx : sh_mx nn = nn := sh_mx_pos (by omega)
        rw [mx] at r8
        -- the state in which the copying begins
        have e41 : ∀ {I : Nat → Nat → Int32}, I = sh_u2 (sh_u2 (sh_u2 (se_dn un mm).I 66 43 (Int32.ofNat k)) 66 44 (Int32.ofNat b)) 66 45 (Int32.ofNat nn) → I 66 41 = Int32.ofNat tp ∧ I 66 45 = Int32.ofNat nn ∧ I 97 j = Int32.ofNat a := by
          intro I hI
          rw [hI]
          refine ⟨?_, sh_u2_same, ?_⟩
          · rw [sh_u2_idx (by omega), sh_u2_idx (by omega), sh_u2_idx (by omega)]; exact m1.mtp
          · rw [sh_u2_cell (by omega), sh_u2_cell (by omega), sh_u2_cell (by omega)]; exact r7
        obtain ⟨i1, i2, i3⟩ := e41 rfl
        have lp : sf_314_91 (Int32.ofNat j) ((se_dn un mm).J 92 a) ((se_dn un mm).T, sh_u2 (sh_u2 (sh_u2 (se_dn un mm).I 66 43 (Int32.ofNat k)) 66 44 (Int32.ofNat b)) 66 45 (Int32.ofNat nn), (se_dn un mm).J, (se_dn un mm).s) = some (true, ((se_dn un mm).T, sh_u2 (sh_u2 (sh_u2 (sh_u2 (se_dn un mm).I 66 43 (Int32.ofNat k)) 66 44 (Int32.ofNat b)) 66 45 (Int32.ofNat nn)) 66 41 (Int32.ofNat (tp + nn)), se_cp (sh_u2 (sh_u2 (se_dn un mm).J 66 46 ((se_dn un mm).J 92 a)) 66 46 (Int64.ofNat tp)) tp a nn, (se_dn un mm).s)) := by
          unfold sf_314_91
          rw [se_Is, if_neg (show ¬ Int32.ofNat nn = 0 from fun r => hn ((sh_nIeq (b := 0) (by omega) (by omega)).mp r))]
          show sf_314_114 (Int32.ofNat j) 0 ((se_dn un mm).T, sh_u2 (sh_u2 (sh_u2 (se_dn un mm).I 66 43 (Int32.ofNat k)) 66 44 (Int32.ofNat b)) 66 45 (Int32.ofNat nn), sh_u2 (sh_u2 (se_dn un mm).J 66 46 ((se_dn un mm).J 92 a)) 66 46 (Int32.toInt64 (sh_u2 (sh_u2 (sh_u2 (se_dn un mm).I 66 43 (Int32.ofNat k)) 66 44 (Int32.ofNat b)) 66 45 (Int32.ofNat nn) 66 41)), (se_dn un mm).s) = _
          rw [i1, se_64c (by omega)]
          unfold sf_314_114
          refine se_cpl (D := tp) (S := a) (n := nn) (fun x J hx => ?_) ?_ (by omega)
          · show sf_314_114s (Int32.ofNat j) (Int32.ofNat x) _ = _
            unfold sf_314_114s
            simp only [sh_X.I, sh_X.J, sh_X.T, sh_X.s]
            rw [i2, if_pos ((sh_nIlt (by omega) (by omega)).mpr hx), if_pos oj, sh_nIc (by omega), i3, sh_nIadd, if_pos (sh_okn' (by omega) (by omega)), i1, sh_nIadd, if_pos (sh_okn' (by omega) (by omega)), sh_nIc (by omega), sh_nIc (by omega), sh_nI1]
          · show sf_314_114s (Int32.ofNat j) (Int32.ofNat nn) _ = _
            unfold sf_314_114s
            simp only [sh_X.I, sh_X.J, sh_X.T, sh_X.s]
            rw [i2, if_neg (sh_nlt0 nn), i1, sh_nIadd]
            rfl
        have g2 : se_G tp q un li (se_dn un mm) ((se_dn un mm).T, sh_u2 (sh_u2 (sh_u2 (sh_u2 (se_dn un mm).I 66 43 (Int32.ofNat k)) 66 44 (Int32.ofNat b)) 66 45 (Int32.ofNat nn)) 66 41 (Int32.ofNat (tp + nn)), se_cp (sh_u2 (sh_u2 (se_dn un mm).J 66 46 ((se_dn un mm).J 92 a)) 66 46 (Int64.ofNat tp)) tp a nn, (se_dn un mm).s) :=
          ((((se_res (m := se_dn un mm) (k := Int32.ofNat k) (b := Int32.ofNat b) (n := Int32.ofNat nn) (v := (se_dn un mm).J 92 a)).trans (se_G.wJ (c := 66) (i := 46) (x := Int64.ofNat tp) (by omega)) (Nat.le_refl _) (Nat.le_refl _) (Nat.le_refl _) (Nat.le_refl _)).trans (se_cpG (D := tp) (S := a) (i := nn) (Nat.le_refl _)) (Nat.le_refl _) (Nat.le_refl _) (Nat.le_refl _) (Nat.le_refl _))).trans (se_G.wI (c := 66) (i := 41) (x := Int32.ofNat (tp + nn)) (by omega)) (Nat.le_refl _) (Nat.le_refl _) (Nat.le_refl _) (Nat.le_refl _)
        refine se_leaf (v := fun j => (se_dn un mm).J 92 (a + j)) (k := k) (b := b) (nn := nn) (tp2 := tp + nn) (mc2 := m2) h cl2 (by rw [b7]; exact se_nxA) (by rw [ev, md, lp]; rfl) ?_ b2 ?_ (f1.trans b3 (Nat.le_refl _) (Nat.le_refl _) (Nat.le_refl _) (Nat.le_refl _) (Nat.le_refl _)) (g1.trans g2 (Nat.le_refl _) (Nat.le_refl _) (Nat.le_refl _) (Nat.le_refl _)) (Or.inr vv) h73 ht ?_ (by omega) (by have := h.bd.t16; omega) ?_
        · rw [se_In (by omega), sh_u2_idx (by omega), sh_u2_idx (by omega), sh_u2_idx (by omega)]; exact se_dn7
        · refine m1.G g2 se_Is ?_
          rw [se_In (by omega), sh_u2_idx (by omega), sh_u2_idx (by omega), sh_u2_idx (by omega)]; exact m1.msp
        · refine ⟨by rw [se_In (by omega), sh_u2_idx (by omega), sh_u2_idx (by omega), sh_u2_same], fun _ => by rw [se_In (by omega), sh_u2_idx (by omega), sh_u2_same], by rw [se_In (by omega), sh_u2_same], fun q => absurd q hn, fun _ => ⟨tp, ?_, Nat.le_refl _, fun x hx => ?_⟩⟩
          · simp only [sh_X.J]
            rw [se_cp_c (by omega), sh_u2_same]
          · simp only [sh_X.J]
            rw [se_cp_in hx, sh_u2_cell (by omega), sh_u2_cell (by omega)]
        · refine fun _ => ⟨tp, ?_, Nat.le_refl _, by omega⟩
          simp only [sh_X.J]
          rw [se_cp_c (by omega), sh_u2_same]
  · left
    refine ⟨3, t, se_nx (i + 1) mc, se_dn un mm, ht, ?_, f1.W c1.rs, ?_, g1.U⟩
    · rw [se_a21 at1]
      unfold sf_164
      rw [n83, sh_bc_some, j3, sh_bc_some, if_pos rfl, se_fail N4 c1 ht]
      rfl
    · rw [ev]
      unfold sf_314
      rw [if_pos (sh_okn' le (by omega)), sh_nIc (by omega), m73, j4, sh_bc_some, if_pos (by decide), if_pos (sh_okn' le (by omega)), if_pos (sh_okn' (by omega) (by omega)), sh_nIc (by omega), m1.we.at ht, sh_252]
      rfl
end
