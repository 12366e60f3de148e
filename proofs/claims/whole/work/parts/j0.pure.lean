/-! COMPILE: what it leaves as it was; its start -/
/-- the room of the gates -/
def sj_l (m : sh_X) : Nat := sh_ln m.T (sh_rf m.T 9 0)
/-- the class compiles: k things more were made -/
def sj_K (k : Nat) (m m2 : sh_X) : Prop := (∀ c t, c ≠ 2 → c ≠ 9 → c ≠ 58 → m.T[c]? = some t → m2.T[c]? = some t) ∧ (m2.T.length + 3 * (131072 / sj_l m2) ≤ m.T.length + 3 * (131072 / sj_l m) + k) ∧ (m.T.length ≤ m2.T.length) ∧ (m2.s + 6 * sj_l m ≤ m.s + 6 * sj_l m2 + 6 * k) ∧ (∀ c, c < 125 → 60 < c → m2.I c = m.I c) ∧ (m2.I 1 = m.I 1) ∧ (∀ c, 57 < c → m2.J c = m.J c)
theorem sj_K.T {k : Nat} {m m2 : sh_X} (h : sj_K k m m2) : ∀ c t, c ≠ 2 → c ≠ 9 → c ≠ 58 → m.T[c]? = some t → m2.T[c]? = some t := h.1
theorem sj_K.n {k : Nat} {m m2 : sh_X} (h : sj_K k m m2) : m2.T.length + 3 * (131072 / sj_l m2) ≤ m.T.length + 3 * (131072 / sj_l m) + k := h.2.1
theorem sj_K.t {k : Nat} {m m2 : sh_X} (h : sj_K k m m2) : m.T.length ≤ m2.T.length := h.2.2.1
theorem sj_K.s {k : Nat} {m m2 : sh_X} (h : sj_K k m m2) : m2.s + 6 * sj_l m ≤ m.s + 6 * sj_l m2 + 6 * k := h.2.2.2.1
theorem sj_K.I {k : Nat} {m m2 : sh_X} (h : sj_K k m m2) : ∀ c, c < 125 → 60 < c → m2.I c = m.I c := h.2.2.2.2.1
theorem sj_K.I1 {k : Nat} {m m2 : sh_X} (h : sj_K k m m2) : m2.I 1 = m.I 1 := h.2.2.2.2.2.1
theorem sj_K.J {k : Nat} {m m2 : sh_X} (h : sj_K k m m2) : ∀ c, 57 < c → m2.J c = m.J c := h.2.2.2.2.2.2
theorem sj_K.mk {k : Nat} {m m2 : sh_X} (T : ∀ c t, c ≠ 2 → c ≠ 9 → c ≠ 58 → m.T[c]? = some t → m2.T[c]? = some t) (n : m2.T.length + 3 * (131072 / sj_l m2) ≤ m.T.length + 3 * (131072 / sj_l m) + k) (t : m.T.length ≤ m2.T.length) (s : m2.s + 6 * sj_l m ≤ m.s + 6 * sj_l m2 + 6 * k) (I : ∀ c, c < 125 → 60 < c → m2.I c = m.I c) (I1 : m2.I 1 = m.I 1) (J : ∀ c, 57 < c → m2.J c = m.J c) : sj_K k m m2 := ⟨T, n, t, s, I, I1, J⟩
theorem sj_K.refl (m : sh_X) : sj_K 0 m m := sj_K.mk (fun _ _ _ _ _ h => h) (Nat.le_refl _) (Nat.le_refl _) (Nat.le_refl _) (fun _ _ _ => rfl) rfl (fun _ _ => rfl)
theorem sj_K.trans {k k2 : Nat} {m m2 m3 : sh_X} (h : sj_K k m m2) (g : sj_K k2 m2 m3) : sj_K (k + k2) m m3 := sj_K.mk (fun c t a b d e => g.T c t a b d (h.T c t a b d e)) (by have := h.n; have := g.n; omega) (Nat.le_trans h.t g.t) (by have := h.s; have := g.s; omega) (fun c a b => (g.I c a b).trans (h.I c a b)) (g.I1.trans h.I1) (fun c a => (g.J c a).trans (h.J c a))
theorem sj_K.more {k k2 : Nat} {m m2 : sh_X} (h : sj_K k m m2) (hk : k ≤ k2) : sj_K k2 m m2 := sj_K.mk h.T (by have := h.n; omega) h.t (by have := h.s; omega) h.I h.I1 h.J
/-- only ints, and longs of the text and the names, are written -/
theorem sj_K.of {m m2 : sh_X} (hT : m2.T = m.T) (hs : m2.s = m.s) (hI : ∀ c, c < 125 → 60 < c → m2.I c = m.I c) (h1 : m2.I 1 = m.I 1) (hJ : ∀ c, 57 < c → m2.J c = m.J c) : sj_K 0 m m2 := sj_K.mk (fun c t _ _ _ h => by rw [hT]; exact h) (by unfold sj_l; rw [hT]; exact Nat.le_refl _) (by rw [hT]; exact Nat.le_refl _) (by unfold sj_l; rw [hT, hs]; exact Nat.le_refl _) hI h1 hJ
theorem sh_Gf.K {m m2 : sh_X} (h : sh_Gf m m2) : sj_K 0 m m2 := sj_K.mk (fun c t _ a _ b => h.T c t a b) h.n h.t (Nat.le_of_eq h.s) (fun c a b => h.I c a (by omega) (by omega) (by omega) (by omega)) (h.I 1 (by omega) (by omega) (by omega) (by omega) (by omega)) (fun c _ => by rw [h.J])
theorem se_Wf.K {m m2 : sh_X} (h : se_Wf m m2) : sj_K 0 m m2 := sj_K.mk (fun c t _ a _ b => h.T c t a b) h.n h.t (Nat.le_of_eq h.s) (fun c a b => h.I c a (by omega)) (h.I 1 (by omega) (by omega)) (fun c a => h.J c (by omega) (by omega) (by omega) (by omega) (by omega))
theorem se_W.K {m m2 : sh_X} (h : se_W m m2) : sj_K 0 m m2 := sj_K.mk (fun c t _ a _ b => h.T c t a b) h.n h.t (Nat.le_of_eq h.s) (fun c a b => h.I c a (by omega)) (h.I 1 (by omega) (by omega)) (fun c a => h.J c (by omega) (by omega) (by omega) (by omega) (by omega))
theorem sh_Lf.K {m m2 : sh_X} (h : sh_Lf m m2) : sj_K 0 m m2 := sj_K.of h.T h.s (fun c _ b => h.I c (by omega) (by omega) (by omega) (by omega) (by omega)) (h.I 1 (by omega) (by omega) (by omega) (by omega) (by omega)) (fun c a => h.J c (by omega))
theorem sh_Cg.K {m m2 : sh_X} (h : sh_Cg m m2) : sj_K 0 m m2 := sj_K.of h.T h.s (fun c _ b => h.I c (by omega)) (h.I 1 (by omega)) (fun c _ => by rw [h.J])
/-- the arrays stand where they stood, if only other objects' fields changed -/
theorem sj_rf {T T2 : List sh_Tg} (h9 : T2[9]? = T[9]?) (f : Nat) : sh_rf T2 9 f = sh_rf T 9 f := sh_rf_eq h9
theorem sh_GS.Tg {gs : sh_gL} {m m2 : sh_X} (h : sh_GS gs m) (hT : ∀ c, c ≠ 2 → c ≠ 58 → c < m.T.length → m2.T[c]? = m.T[c]?) (hl : m2.T.length = m.T.length) (hI : ∀ c, c = 9 ∨ c = 10 ∨ c = 11 ∨ c = 12 ∨ 125 ≤ c → m2.I c = m.I c) : sh_GS gs m2 ∧ sj_l m2 = sj_l m := by
  obtain ⟨h1, h6, h7, a, b, d, n, g⟩ := h
  have fa := g.fa
  have fb := g.fb
  have fc := g.fc
  have nT := g.nT
  have r : ∀ f, sh_rf m2.T 9 f = sh_rf m.T 9 f := fun f => sj_rf (hT 9 (by omega) (by omega) (by omega)) f
  have la : sh_ln m2.T a = sh_ln m.T a := sh_ln_eq (hT a (by omega) (by omega) (by omega))
  have lb : sh_ln m2.T b = sh_ln m.T b := sh_ln_eq (hT b (by omega) (by omega) (by omega))
  have lc : sh_ln m2.T d = sh_ln m.T d := sh_ln_eq (hT d (by omega) (by omega) (by omega))
  refine ⟨⟨h1, h6, h7, a, b, d, n, sh_Gv.mk (ra := by rw [r]; exact g.ra) (rb := by rw [r]; exact g.rb) (rc := by rw [r]; exact g.rc) (la := by rw [la]; exact g.la) (lb := by rw [lb]; exact g.lb) (lc := by rw [lc]; exact g.lc) (ab := g.ab) (ac := g.ac) (bc := g.bc) (fa := by rw [hl]; exact g.fa) (fb := by rw [hl]; exact g.fb) (fc := by rw [hl]; exact g.fc) (nT := by rw [hl]; exact g.nT) (n0 := g.n0) (n1 := g.n1) (n5 := g.n5) (tT := by rw [hl]; exact g.tT) (le := g.le) (w := by rw [hI 9 (by omega)]; exact g.w) (k := fun j hj => by rw [hI a (by omega)]; exact g.k j hj) (l := fun j hj => by rw [hI b (by omega)]; exact g.l j hj) (r := fun j hj => by rw [hI d (by omega)]; exact g.r j hj) (wf := g.wf)⟩, ?_⟩
  unfold sj_l
  rw [r 0, g.ra, la]
/-- a fault adds an exception -/
theorem sj_flt {k p : Int32} {gs : sh_gL} {m : sh_X} (h : sh_GS gs m) (hl : m.T.length < 800000) : sj_K 1 m (sh_flt k p m) ∧ sh_GS gs (sh_flt k p m) := by
  obtain ⟨h1, h6, h7, a, b, d, n, g⟩ := h
  have fa := g.fa
  have fb := g.fb
  have fc := g.fc
  have nT := g.nT
  have n0 := g.n0
  have tT := g.tT
  have at_ : ∀ c, c < m.T.length → (m.T ++ [(.inr (13, []) : sh_Tg)])[c]? = m.T[c]? := fun c hc => List.getElem?_append_left hc
  have r : ∀ f, sh_rf (m.T ++ [(.inr (13, []) : sh_Tg)]) 9 f = sh_rf m.T 9 f := fun f => sj_rf (at_ 9 (by omega)) f
  have la : sh_ln (m.T ++ [(.inr (13, []) : sh_Tg)]) a = sh_ln m.T a := sh_ln_eq (at_ a (by omega))
  have lb : sh_ln (m.T ++ [(.inr (13, []) : sh_Tg)]) b = sh_ln m.T b := sh_ln_eq (at_ b (by omega))
  have lc : sh_ln (m.T ++ [(.inr (13, []) : sh_Tg)]) d = sh_ln m.T d := sh_ln_eq (at_ d (by omega))
  have lenE : (m.T ++ [(.inr (13, []) : sh_Tg)]).length = m.T.length + 1 := by rw [List.length_append]; rfl
  have lE : sj_l (sh_flt k p m) = sj_l m := by
    unfold sj_l
    show sh_ln (m.T ++ [(.inr (13, []) : sh_Tg)]) (sh_rf (m.T ++ [(.inr (13, []) : sh_Tg)]) 9 0) = _
    rw [r 0, g.ra, la]
  have kI : ∀ c, c ≠ 2 → (sh_flt k p m).I c = m.I c := fun c hc => by
    show sh_u2 (sh_u2 m.I 2 9 k) 2 10 p c = m.I c
    rw [sh_u2_cell hc, sh_u2_cell hc]
  constructor
  · refine sj_K.mk (fun c t _ _ _ h => ?_) ?_ ?_ ?_ (fun c _ b => kI c (by omega)) (kI 1 (by omega)) (fun _ _ => rfl)
    · have hc : c < m.T.length := by
        rcases Nat.lt_or_ge c m.T.length with q | q
        · exact q
        · rw [List.getElem?_eq_none q] at h; cases h
      show (m.T ++ [(.inr (13, []) : sh_Tg)])[c]? = some t
      rw [at_ c hc]; exact h
    · rw [lE]
      show (m.T ++ [(.inr (13, []) : sh_Tg)]).length + _ ≤ _
      omega
    · show m.T.length ≤ (m.T ++ [(.inr (13, []) : sh_Tg)]).length
      omega
    · rw [lE]; show m.s + 6 + _ ≤ _; omega
  · have d131 : 3 * (131072 / n) ≤ 99 := by
      have : 131072 / n ≤ 131072 / 4096 := Nat.div_le_div_left n0 (by omega)
      omega
    refine ⟨h1, h6, h7, a, b, d, n, sh_Gv.mk (ra := by show sh_rf (m.T ++ [(.inr (13, []) : sh_Tg)]) 9 0 = a; rw [r]; exact g.ra) (rb := by show sh_rf (m.T ++ [(.inr (13, []) : sh_Tg)]) 9 1 = b; rw [r]; exact g.rb) (rc := by show sh_rf (m.T ++ [(.inr (13, []) : sh_Tg)]) 9 2 = d; rw [r]; exact g.rc) (la := by show sh_ln (m.T ++ [(.inr (13, []) : sh_Tg)]) a = n; rw [la]; exact g.la) (lb := by show sh_ln (m.T ++ [(.inr (13, []) : sh_Tg)]) b = n; rw [lb]; exact g.lb) (lc := by show sh_ln (m.T ++ [(.inr (13, []) : sh_Tg)]) d = n; rw [lc]; exact g.lc) (ab := g.ab) (ac := g.ac) (bc := g.bc) (fa := by show _ ∧ a < (m.T ++ [(.inr (13, []) : sh_Tg)]).length; omega) (fb := by show _ ∧ b < (m.T ++ [(.inr (13, []) : sh_Tg)]).length; omega) (fc := by show _ ∧ d < (m.T ++ [(.inr (13, []) : sh_Tg)]).length; omega) (nT := by show 125 ≤ (m.T ++ [(.inr (13, []) : sh_Tg)]).length; omega) (n0 := g.n0) (n1 := g.n1) (n5 := g.n5) (tT := by show (m.T ++ [(.inr (13, []) : sh_Tg)]).length + _ ≤ _; omega) (le := g.le) (w := by rw [kI 9 (by omega)]; exact g.w) (k := fun j hj => by rw [kI a (by omega)]; exact g.k j hj) (l := fun j hj => by rw [kI b (by omega)]; exact g.l j hj) (r := fun j hj => by rw [kI d (by omega)]; exact g.r j hj) (wf := g.wf)⟩
/-- the gates are cleared: 0 and 1 stand -/
theorem sj_18 {gs : sh_gL} {m : sh_X} (h : sh_GS gs m) : ∃ m2, sf_18 m = some ((), m2) ∧ sh_GS [(0, 0, 0), (0, 0, 0)] m2 ∧ sj_K 0 m m2 ∧ ∀ c, c < 125 → c ≠ 9 → c ≠ 10 → c ≠ 11 → c ≠ 12 → m2.I c = m.I c := by
  obtain ⟨h1, h6, h7, a, b, d, n, g⟩ := h
  have n0 := g.n0
  have fa := g.fa
  have fb := g.fb
  have fc := g.fc
  obtain ⟨m1, hm1⟩ : ∃ m1 : sh_X, (m.T, sh_u2 m.I 9 3 0, m.J, m.s) = m1 := ⟨_, rfl⟩
  have k1 : ∀ c, c ≠ 9 → m1.I c = m.I c := fun c hc => by rw [← hm1]; exact sh_u2_cell hc
  have T1 : m1.T = m.T := by rw [← hm1]
  have g0 : sh_Gv [] a b d n m1 := sh_Gv.mk (ra := by rw [T1]; exact g.ra) (rb := by rw [T1]; exact g.rb) (rc := by rw [T1]; exact g.rc) (la := by rw [T1]; exact g.la) (lb := by rw [T1]; exact g.lb) (lc := by rw [T1]; exact g.lc) (ab := g.ab) (ac := g.ac) (bc := g.bc) (fa := by rw [T1]; exact g.fa) (fb := by rw [T1]; exact g.fb) (fc := by rw [T1]; exact g.fc) (nT := by rw [T1]; exact g.nT) (n0 := g.n0) (n1 := g.n1) (n5 := g.n5) (tT := by rw [T1]; exact g.tT) (le := Nat.zero_le _) (w := by rw [← hm1]; exact se_Is) (k := fun j hj => absurd hj (Nat.not_lt_zero _)) (l := fun j hj => absurd hj (Nat.not_lt_zero _)) (r := fun j hj => absurd hj (Nat.not_lt_zero _)) (wf := True.intro)
  obtain ⟨a2, b2, c2, n2, m2, e1, e2, e3⟩ := sh_st_spec (k := 0) (x := 0) (y := 0) g0 (by show 0 < 65536; omega) (by omega) (Or.inl ⟨rfl, rfl, Or.inl ⟨rfl, rfl⟩⟩)
  obtain ⟨a3, b3, c3, n3, m3, f1, f2, f3⟩ := sh_st_spec (k := 0) (x := 0) (y := 0) e2 (by show 1 < 65536; omega) (by omega) (Or.inl ⟨rfl, rfl, Or.inr ⟨by show 0 < 1; omega, rfl, Or.inl rfl⟩⟩)
  refine ⟨m3, ?_, ⟨by show 2 ≤ 2; omega, rfl, rfl, a3, b3, c3, n3, f2⟩, ?_, fun c h1 h2 h3 h4 h5 => ?_⟩
  · unfold sf_18
    rw [hm1, show sf_19 0 0 0 m1 = some (Int32.ofNat 0, m2) from e1, sh_bn_some, show sf_19 0 0 0 m2 = some (Int32.ofNat 1, m3) from f1, sh_bn_some]
  · have K0 : sj_K 0 m m1 := sj_K.of T1 (by rw [← hm1]) (fun c _ h => k1 c (by omega)) (k1 1 (by omega)) (fun _ _ => by rw [← hm1])
    exact (K0.trans e3.K).trans f3.K
  · rw [f3.I c h1 h2 h3 h4 h5, e3.I c h1 h2 h3 h4 h5, k1 c h2]
/-- the house is cleared -/
theorem sj_17 {gs : sh_gL} {m : sh_X} (h : sh_GS gs m) : ∃ m2, sf_17 m = some ((), m2) ∧ sh_GS [(0, 0, 0), (0, 0, 0)] m2 ∧ sj_K 0 m m2 ∧ m2.I 0 11 = m.I 0 11 + 1 ∧ m2.I 0 13 = 0 ∧ m2.I 0 14 = 0 ∧ m2.I 0 12 = -1 ∧ m2.I 0 10 = m.I 0 10 ∧ (∀ x, x = 13 ∨ x = 18 ∨ x = 23 → m2.I x 4 = 0 ∧ m2.I x 5 = 0) ∧ (∀ c, c < 125 → c ≠ 0 → (c < 9 ∨ 27 < c) → m2.I c = m.I c) := by
  obtain ⟨m1, hm1⟩ : ∃ m1 : sh_X, (m.T, sh_u2 (sh_u2 (sh_u2 (sh_u2 m.I 0 11 ((m.I 0 11) + 1)) 0 13 0) 0 14 0) 0 12 (-1), m.J, m.s) = m1 := ⟨_, rfl⟩
  have k1 : ∀ c, c ≠ 0 → m1.I c = m.I c := fun c hc => by
    rw [← hm1]
    show sh_u2 (sh_u2 (sh_u2 (sh_u2 m.I 0 11 ((m.I 0 11) + 1)) 0 13 0) 0 14 0) 0 12 (-1) c = m.I c
    rw [sh_u2_cell hc, sh_u2_cell hc, sh_u2_cell hc, sh_u2_cell hc]
  have T1 : m1.T = m.T := by rw [← hm1]
  have K0 : sj_K 0 m m1 := sj_K.of T1 (by rw [← hm1]) (fun c _ h => k1 c (by omega)) (k1 1 (by omega)) (fun _ _ => by rw [← hm1])
  have g1 : sh_GS gs m1 := h.cong T1 (fun c hc => k1 c (by omega))
  obtain ⟨m2, a1, a2, a3, a4⟩ := sj_18 g1
  obtain ⟨m5, hm5⟩ : ∃ m5 : sh_X, (m2.T, sh_u2 (sh_u2 (sh_u2 (sh_u2 (sh_u2 (sh_u2 m2.I 13 4 0) 13 5 0) 18 4 0) 18 5 0) 23 4 0) 23 5 0, m2.J, m2.s) = m5 := ⟨_, rfl⟩
  have k5 : ∀ c, c ≠ 13 → c ≠ 18 → c ≠ 23 → m5.I c = m2.I c := fun c x y z => by
    rw [← hm5]
    show sh_u2 (sh_u2 (sh_u2 (sh_u2 (sh_u2 (sh_u2 m2.I 13 4 0) 13 5 0) 18 4 0) 18 5 0) 23 4 0) 23 5 0 c = m2.I c
    rw [sh_u2_cell z, sh_u2_cell z, sh_u2_cell y, sh_u2_cell y, sh_u2_cell x, sh_u2_cell x]
  have T5 : m5.T = m2.T := by rw [← hm5]
  have z0 : m5.I 0 = m1.I 0 := (k5 0 (by omega) (by omega) (by omega)).trans (a4 0 (by omega) (by omega) (by omega) (by omega) (by omega))
  refine ⟨m5, ?_, a2.cong T5 (fun c hc => k5 c (by omega) (by omega) (by omega)), (K0.trans a3).trans (sj_K.of T5 (by rw [← hm5]) (fun c _ h => k5 c (by omega) (by omega) (by omega)) (k5 1 (by omega) (by omega) (by omega)) (fun _ _ => by rw [← hm5])), ?_, ?_, ?_, ?_, ?_, fun x hx => ?_, fun c h1 h2 h3 => ?_⟩
  · unfold sf_17 sf_23
    rw [hm1, a1, sh_bn_some, sh_bn_some, sh_bn_some, sh_bn_some, ← hm5]
  · rw [z0, ← hm1, se_In (by omega), sh_u2_idx (by omega), sh_u2_idx (by omega), sh_u2_same]
  · rw [z0, ← hm1, se_In (by omega), sh_u2_idx (by omega), sh_u2_same]
  · rw [z0, ← hm1, se_In (by omega), sh_u2_same]
  · rw [z0, ← hm1]; exact se_Is
  · rw [z0, ← hm1, se_In (by omega), sh_u2_idx (by omega), sh_u2_idx (by omega), sh_u2_idx (by omega)]
  · rw [← hm5]
    rcases hx with rfl | rfl | rfl
    · refine ⟨?_, ?_⟩
      · rw [se_Ic (by omega), sh_u2_cell (by omega), sh_u2_cell (by omega), sh_u2_cell (by omega), sh_u2_idx (by omega), sh_u2_same]
      · rw [se_Ic (by omega), sh_u2_cell (by omega), sh_u2_cell (by omega), sh_u2_cell (by omega), sh_u2_same]
    · refine ⟨?_, ?_⟩
      · rw [se_Ic (by omega), sh_u2_cell (by omega), sh_u2_idx (by omega), sh_u2_same]
      · rw [se_Ic (by omega), sh_u2_cell (by omega), sh_u2_same]
    · refine ⟨?_, se_Is⟩
      rw [se_In (by omega), sh_u2_same]
  · rw [k5 c (by omega) (by omega) (by omega), a4 c h1 (by omega) (by omega) (by omega) (by omega), k1 c h2]
