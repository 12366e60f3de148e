/-! EVALUATION: names are made -/
section
variable {N : Nat} {K : Nat → Int32} {P V : Nat → Nat} {A C : Nat → Nat → Int32} {p : Nat → Bool} {pf : Nat → Nat} {F c2 un n len d bb sg : Nat} {gs : sh_gL} {u z q B M fr cl sp cw ifs cd kn inn tp li : Nat} {ac : Bool} {mc mm : sh_X} {f cdx nn g : Nat} {r b σ lk s : Nat → Nat} {Rm : Option (Bool × sh_X)}
/-- all the arguments -/
theorem se_argL (hT : sh_Txt N K P V) (hm : se_m N K P V A q B sp ifs cd kn inn tp li ac mm) (hJ : se_J N K V p gs u q B M tp cw ac mc mm) (bd : se_Bd P pf F n gs.length u z q fr (cl + 1) sp cd kn tp li un g d len bb sg) (lB : B ≤ q) (c10 : C 28 10 = Int32.ofNat c2) (c6 : c2 ≤ 6000) (ifb : ifs ≤ bb ∧ inn ≤ sp) (hH : sh_Hds N K V A C F) (hf : f < F) (hF : F < 256) (h80 : A 80 f = Int32.ofNat nn) (n8 : nn ≤ 8) (h43 : mc.I 43 cl = Int32.ofNat f) (hcl : cl < 1000)
    (hσ : ∀ k, k < nn → σ k + lk k + 1 ≤ σ (k + 1) ∧ 1 ≤ lk k) (hσn : σ nn + 1 ≤ len) (hr : ∀ k, k < nn → r k < 9000 ∧ A 77 (r k) = (if k + 1 < nn then Int32.ofNat (r (k + 1)) else -1) ∧ A 78 (r k) = Int32.ofNat (s k) ∧ s k ≤ N ∧ b k + 1 ≤ b (k + 1) ∧ b (k + 1) ≤ c2 ∧ C 36 (b (k + 1) - 1) = 16 ∧ C 37 (b (k + 1) - 1) = Int32.ofNat (s k) ∧ C 38 (b (k + 1) - 1) = Int32.ofNat k)
    (ih : ∀ k, k < nn → se_OK N K P V A C p pf F c2 kn (r k) (b k) (b (k + 1) - 1) d (lk k)) :
    ∀ (dd k : Nat) (e' : sh_gL) (nk : Nat) (mck mmk : sh_X) (uk spk tpk : Nat), k + dd = nn → se_Ak N K P V C p (sq_279 (g + 1)) Rm un n bb gs u z q B fr (cl + 1) sp cw ifs cd kn tp li mc mm f cdx nn r b σ k e' nk mck mmk uk spk tpk →
    se_bad N P mc mm (sf_78_10 (Int32.ofNat n) mc) Rm ∨
    ∃ e2 n2 mc2 mm2 u2 sp2 tp2, se_Ak N K P V C p (sq_279 (g + 1)) Rm un n bb gs u z q B fr (cl + 1) sp cw ifs cd kn tp li mc mm f cdx nn r b σ nn e2 n2 mc2 mm2 u2 sp2 tp2 := by
  intro dd
  induction dd with
  | zero =>
    intro k e' nk mck mmk uk spk tpk hk R
    have : k = nn := by omega
    subst this
    exact Or.inr ⟨_, _, _, _, _, _, _, R⟩
  | succ dd ih2 =>
    intro k e' nk mck mmk uk spk tpk hk R
    rcases se_argS hT hm hJ bd lB c10 c6 ifb hH hf hF h80 n8 h43 hcl hσ hσn hr ih (by omega) R with bad | ⟨e2, n2, mc2, mm2, u2, sp2, tp2, R2⟩
    · exact Or.inl bad
    · exact ih2 (k + 1) e2 n2 mc2 mm2 u2 sp2 tp2 (by omega) R2
/-- a name more -/
theorem se_J.add {mc2 mm2 : sh_X} {tp2 : Nat} (h : se_J N K V p gs u q B M tp cw ac mc mm) (f : se_F u z q fr cl mc mc2) (g : se_G0 tp q un li mm mm2) (hn : se_N N K V p gs u tp2 q mc2 mm2) (ha : tp ≤ se_a mm2 q) (ht : tp ≤ tp2) (hb : tp < 1000000) : se_J N K V p gs u (q + 1) B M tp2 cw ac mc2 mm2 := by
  have j1 : se_J N K V p ([] ++ gs) u q B M tp cw ac mc2 mm2 := h.keep0 (e := []) f g (Nat.le_refl _) (Nat.le_refl _)
  have j2 : se_J N K V p ([] ++ gs) u q B M tp2 cw ac mc2 mm2 := h.keep0 (e := []) f g (Nat.le_refl _) ht
  have ends : ∀ i, i < q → se_e mm2 i ≤ tp := by
    intro i hi
    obtain ⟨t, k, b, n, a, _, _, _, _, _, h6, h7, h8, _⟩ := j1.nm i hi
    have m1 := sh_mx_1 n
    have : n ≤ sh_mx n := by unfold sh_mx; split <;> omega
    unfold se_e se_a
    rw [h6, h7, sh_nIc (by omega), sh_nIc (by omega)]
    exact h8
  refine se_J.mk (fun i hi => ?_) (fun i j hij hj => ?_) (fun i h1 h2 => ?_) (Nat.le_trans j1.lM ht) j2.ac_ j2.lcw j2.ou
  · by_cases e : i = q
    · subst e; exact hn
    · exact j2.nm i (by omega)
  · by_cases e : j = q
    · subst e
      exact Nat.le_trans (ends i hij) ha
    · exact j2.sep i j hij (by omega)
  · by_cases e : i = q
    · subst e
      exact Nat.le_trans j1.lM ha
    · exact j2.nM i h1 (by omega)
end
/-- the model makes a name -/
theorem se_318 {m : sh_X} {t q tp k n un li : Nat} {v : Nat → Int64} (h53 : m.I 66 53 = Int32.ofNat q) (hq : q < 3000) (h41 : m.I 66 41 = Int32.ofNat tp) (htp : tp + 32 ≤ 80000) (h43 : m.I 66 43 = Int32.ofNat k) (h45 : m.I 66 45 = Int32.ofNat n) (hn : n ≤ 32) (v0 : n = 0 → m.J 66 46 = v 0) (vn : 0 < n → ∃ a, m.J 66 46 = Int64.ofNat a ∧ a + n ≤ tp ∧ ∀ i, i < n → m.J 92 (a + i) = v i) :
    ∃ m2, sf_318 (Int32.ofNat t) m = some ((), m2) ∧ se_G0 tp q un li m m2 ∧ m2.I 93 q = Int32.ofNat t ∧ m2.I 94 q = Int32.ofNat k ∧ m2.I 95 q = m.I 66 44 ∧ m2.I 96 q = Int32.ofNat n ∧ m2.I 97 q = Int32.ofNat tp ∧ m2.J 98 q = m.J 66 46 ∧ (∀ i, i < sh_mx n → m2.J 92 (tp + i) = v i) ∧ m2.I 66 41 = Int32.ofNat (tp + sh_mx n) ∧ m2.I 66 53 = Int32.ofNat (q + 1) ∧ (∀ f, f ≠ 41 → f ≠ 53 → m2.I 66 f = m.I 66 f) := by
  have o : sh_okb (Int32.ofNat q) 3000 = true := sh_okn' hq (by omega)
  have mx := sh_mx_le hn
  -- the memory with the name's entries
  obtain ⟨I5, hI5⟩ : ∃ I5, sh_u2 (sh_u2 (sh_u2 (sh_u2 (sh_u2 m.I 93 q (Int32.ofNat t)) 94 q (m.I 66 43)) 95 q (m.I 66 44)) 96 q (m.I 66 45)) 97 q (m.I 66 41) = I5 := ⟨_, rfl⟩
  have G5 : se_G0 tp q un li m (m.T, I5, m.J, m.s) := by
    rw [← hI5]
    exact (((((se_G.wI (c := 93) (i := q) (x := Int32.ofNat t) (by omega)).trans (se_G.wI (c := 94) (i := q) (x := m.I 66 43) (by omega)) (Nat.le_refl _) (Nat.le_refl _) (Nat.le_refl _) (Nat.le_refl _)).trans (se_G.wI (c := 95) (i := q) (x := m.I 66 44) (by omega)) (Nat.le_refl _) (Nat.le_refl _) (Nat.le_refl _) (Nat.le_refl _)).trans (se_G.wI (c := 96) (i := q) (x := m.I 66 45) (by omega)) (Nat.le_refl _) (Nat.le_refl _) (Nat.le_refl _) (Nat.le_refl _)).trans (se_G.wI (c := 97) (i := q) (x := m.I 66 41) (by omega)) (Nat.le_refl _) (Nat.le_refl _) (Nat.le_refl _) (Nat.le_refl _)).G0
  have k93 : I5 93 q = Int32.ofNat t := by rw [← hI5, sh_u2_cell (by omega), sh_u2_cell (by omega), sh_u2_cell (by omega), sh_u2_cell (by omega), sh_u2_same]
  have k94 : I5 94 q = Int32.ofNat k := by rw [← hI5, sh_u2_cell (by omega), sh_u2_cell (by omega), sh_u2_cell (by omega), sh_u2_same, h43]
  have k95 : I5 95 q = m.I 66 44 := by rw [← hI5, sh_u2_cell (by omega), sh_u2_cell (by omega), sh_u2_same]
  have k96 : I5 96 q = Int32.ofNat n := by rw [← hI5, sh_u2_cell (by omega), sh_u2_same, h45]
  have k97 : I5 97 q = Int32.ofNat tp := by rw [← hI5, sh_u2_same, h41]
  have k66 : I5 66 = m.I 66 := by rw [← hI5, sh_u2_cell (by omega), sh_u2_cell (by omega), sh_u2_cell (by omega), sh_u2_cell (by omega), sh_u2_cell (by omega)]
  have fin : ∀ (J : Nat → Nat → Int64) (y : Nat), sh_X.I (m.T, sh_u2 (sh_u2 I5 66 41 (Int32.ofNat y)) 66 53 (Int32.ofNat (q + 1)), J, m.s) 66 41 = Int32.ofNat y ∧ (∀ f, f ≠ 41 → f ≠ 53 → sh_X.I (m.T, sh_u2 (sh_u2 I5 66 41 (Int32.ofNat y)) 66 53 (Int32.ofNat (q + 1)), J, m.s) 66 f = m.I 66 f) := by
    intro J y
    refine ⟨by rw [se_In (by omega), sh_u2_same], fun f a b => ?_⟩
    rw [se_In (by omega), sh_u2_idx a, k66]
  by_cases hn0 : n = 0
  · subst hn0
    have ev : sf_318 (Int32.ofNat t) m = some ((), (m.T, sh_u2 (sh_u2 I5 66 41 (Int32.ofNat (tp + 1))) 66 53 (Int32.ofNat (q + 1)), sh_u2 (sh_u2 m.J 98 q (m.J 66 46)) 92 tp (m.J 66 46), m.s)) := by
      unfold sf_318 sf_318_162
      rw [h53, if_pos o, if_pos o, if_pos o, if_pos o, if_pos o, if_pos o, sh_nIc (by omega), if_pos (by rw [h45]; rfl), hI5, h41, if_pos (sh_okn' (by omega) (by omega)), sh_nI1, sh_nIc (by omega)]
      have e53 : sh_X.I (m.T, sh_u2 I5 66 41 (Int32.ofNat (tp + 1)), sh_u2 (sh_u2 m.J 98 q (m.J 66 46)) 92 tp (m.J 66 46), m.s) 66 53 = Int32.ofNat q := by rw [se_In (by omega), k66]; exact h53
      rw [e53, sh_nI1]
    refine ⟨_, ev, ?_, by rw [se_Ic (by omega), sh_u2_cell (by omega)]; exact k93, by rw [se_Ic (by omega), sh_u2_cell (by omega)]; exact k94, by rw [se_Ic (by omega), sh_u2_cell (by omega)]; exact k95, by rw [se_Ic (by omega), sh_u2_cell (by omega)]; exact k96, by rw [se_Ic (by omega), sh_u2_cell (by omega)]; exact k97, by rw [se_Jn (by omega), sh_u2_same], fun i hi => ?_, (fin _ (tp + 1)).1, se_Is, (fin _ (tp + 1)).2⟩
    · exact (((G5.trans (se_G.wJ (c := 98) (i := q) (x := m.J 66 46) (by omega)).G0 (Nat.le_refl _) (Nat.le_refl _) (Nat.le_refl _) (Nat.le_refl _)).trans (se_G.wJ (c := 92) (i := tp) (x := m.J 66 46) (by omega)).G0 (Nat.le_refl _) (Nat.le_refl _) (Nat.le_refl _) (Nat.le_refl _)).trans (se_G0.wF (f := 41) (x := Int32.ofNat (tp + 1)) (by omega)) (Nat.le_refl _) (Nat.le_refl _) (Nat.le_refl _) (Nat.le_refl _)).trans (se_G0.wF (f := 53) (x := Int32.ofNat (q + 1)) (by omega)) (Nat.le_refl _) (Nat.le_refl _) (Nat.le_refl _) (Nat.le_refl _)
    · have : i = 0 := by have e : sh_mx 0 = 1 := rfl; omega
      subst this
      show sh_u2 (sh_u2 m.J 98 q (m.J 66 46)) 92 tp (m.J 66 46) 92 tp = v 0
      rw [sh_u2_same]
      exact v0 rfl
  · obtain ⟨a, a1, a2, a3⟩ := vn (by omega)
    have mxn : sh_mx n = n := sh_mx_pos (by omega)
    have G6 : se_G0 tp q un li m (m.T, I5, sh_u2 m.J 98 q (m.J 66 46), m.s) := G5.trans (se_G.wJ (c := 98) (i := q) (x := m.J 66 46) (by omega)).G0 (Nat.le_refl _) (Nat.le_refl _) (Nat.le_refl _) (Nat.le_refl _)
    have e41 : I5 66 41 = Int32.ofNat tp := by rw [k66]; exact h41
    have e45 : I5 66 45 = Int32.ofNat n := by rw [k66]; exact h45
    have ev : sf_318 (Int32.ofNat t) m = some ((), (m.T, sh_u2 (sh_u2 I5 66 41 (Int32.ofNat (tp + n))) 66 53 (Int32.ofNat (q + 1)), se_cp (sh_u2 m.J 98 q (m.J 66 46)) tp a n, m.s)) := by
      unfold sf_318
      rw [h53, if_pos o, if_pos o, if_pos o, if_pos o, if_pos o, if_pos o, sh_nIc (by omega), if_neg (by rw [h45]; exact fun w => hn0 ((sh_nIeq (b := 0) (by omega) (by omega)).mp w)), hI5, a1, se_c64 (by omega)]
      unfold sf_318_116
      refine se_cpl (D := tp) (S := a) (n := n) (m := (m.T, I5, sh_u2 m.J 98 q (Int64.ofNat a), m.s)) (fun i J hi => ?_) ?_ (by omega)
      · show sf_318_116s (Int32.ofNat a) (Int32.ofNat i) (m.T, I5, J, m.s) = _
        unfold sf_318_116s
        simp only [sh_X.I]
        rw [e45, e41, sh_nIadd, sh_nIadd, if_pos ((sh_nIlt (by omega) (by omega)).mpr hi), if_pos (sh_okn' (by omega) (by omega)), if_pos (sh_okn' (by omega) (by omega)), sh_nIc (by omega), sh_nIc (by omega), sh_nI1]
      · show sf_318_116s (Int32.ofNat a) (Int32.ofNat n) (m.T, I5, se_cp (sh_u2 m.J 98 q (Int64.ofNat a)) tp a n, m.s) = _
        unfold sf_318_116s sf_318_162
        simp only [sh_X.I]
        rw [e45, e41, if_neg (sh_nlt0 n), sh_nIadd, sh_u2_idx (by omega), k66, h53, sh_nI1]
    refine ⟨_, ev, ?_, by rw [se_Ic (by omega), sh_u2_cell (by omega)]; exact k93, by rw [se_Ic (by omega), sh_u2_cell (by omega)]; exact k94, by rw [se_Ic (by omega), sh_u2_cell (by omega)]; exact k95, by rw [se_Ic (by omega), sh_u2_cell (by omega)]; exact k96, by rw [se_Ic (by omega), sh_u2_cell (by omega)]; exact k97, by show se_cp (sh_u2 m.J 98 q (m.J 66 46)) tp a n 98 q = _; rw [se_cp_c (by omega), sh_u2_same], fun i hi => ?_, by rw [mxn]; exact (fin _ (tp + n)).1, se_Is, (fin _ (tp + n)).2⟩
    · exact ((G6.trans (se_cpG (D := tp) (S := a) (i := n) (Nat.le_refl _)).G0 (Nat.le_refl _) (Nat.le_refl _) (Nat.le_refl _) (Nat.le_refl _)).trans (se_G0.wF (f := 41) (x := Int32.ofNat (tp + n)) (by omega)) (Nat.le_refl _) (Nat.le_refl _) (Nat.le_refl _) (Nat.le_refl _)).trans (se_G0.wF (f := 53) (x := Int32.ofNat (q + 1)) (by omega)) (Nat.le_refl _) (Nat.le_refl _) (Nat.le_refl _) (Nat.le_refl _)
    · rw [mxn] at hi
      show se_cp (sh_u2 m.J 98 q (m.J 66 46)) tp a n 92 (tp + i) = _
      rw [se_cp_in hi, sh_u2_cell (by omega)]
      exact a3 i hi
/-- the class makes a name -/
theorem se_105 {N : Nat} {K : Nat → Int32} {P V : Nat → Nat} {C : Nat → Nat → Int32} {gs : sh_gL} {u z q B fr cl sp cw ifs cd kn : Nat} {m : sh_X} (h : se_c N K P V C gs u z q B fr cl sp cw ifs cd kn m) (hq : q < 1024) (a b c : Int32) (v : Int64) : ∃ m2, sf_105 a b c v m = some ((), m2) ∧ se_c N K P V C gs u z (q + 1) B fr cl sp cw ifs cd kn m2 ∧ se_F u z q fr cl m m2 ∧ m2.I 54 q = a ∧ m2.I 55 q = b ∧ m2.I 56 q = c ∧ m2.J 57 q = v ∧ m2.I 41 = m.I 41 ∧ m2.I 45 = m.I 45 ∧ m2.I 42 = m.I 42 ∧ m2.I 43 = m.I 43 ∧ m2.I 49 = m.I 49 ∧ m2.I 50 = m.I 50 := by
  have o : sh_okb (Int32.ofNat q) 1024 = true := sh_okn' hq (by omega)
  have c2 := (((((h.wI (c := 54) (i := q) (x := a) (by omega)).wI (c := 55) (i := q) (x := b) (by omega)).wI (c := 56) (i := q) (x := c) (by omega)).w_q (y := q + 1)).wJ (c := 57) (i := q) (x := v) (by omega))
  have f2 : se_F u z q fr cl m (m.T, sh_u2 (sh_u2 (sh_u2 (sh_u2 m.I 54 q a) 55 q b) 56 q c) 53 4 (Int32.ofNat (q + 1)), sh_u2 m.J 57 q v, m.s) := ((((se_F.wI (c := 54) (i := q) (x := a) (by omega) (by omega) (by omega) (by omega) (by omega) (by omega)).trans (se_F.wI (c := 55) (i := q) (x := b) (by omega) (by omega) (by omega) (by omega) (by omega) (by omega)) (Nat.le_refl _) (Nat.le_refl _) (Nat.le_refl _) (Nat.le_refl _) (Nat.le_refl _)).trans (se_F.wI (c := 56) (i := q) (x := c) (by omega) (by omega) (by omega) (by omega) (by omega) (by omega)) (Nat.le_refl _) (Nat.le_refl _) (Nat.le_refl _) (Nat.le_refl _) (Nat.le_refl _)).trans (se_F.wI (c := 53) (i := 4) (x := Int32.ofNat (q + 1)) (by omega) (by omega) (by omega) (by omega) (by omega) (by omega)) (Nat.le_refl _) (Nat.le_refl _) (Nat.le_refl _) (Nat.le_refl _) (Nat.le_refl _)).trans (se_F.wJ (c := 57) (i := q) (x := v) (by omega)) (Nat.le_refl _) (Nat.le_refl _) (Nat.le_refl _) (Nat.le_refl _) (Nat.le_refl _)
  refine ⟨(m.T, sh_u2 (sh_u2 (sh_u2 (sh_u2 m.I 54 q a) 55 q b) 56 q c) 53 4 (Int32.ofNat (q + 1)), sh_u2 m.J 57 q v, m.s), ?_, c2, f2, ?_, ?_, ?_, se_Js, ?_, ?_, ?_, ?_, ?_, ?_⟩
  · unfold sf_105
    rw [h.cq, if_pos (show Int32.ofNat q < 1024 from (sh_nIlt (b := 1024) (by omega) (by omega)).mpr hq), if_pos o, if_pos o, if_pos o, if_pos o, sh_nIc (by omega), sh_nI1]
  · rw [se_Ic (by omega), sh_u2_cell (by omega), sh_u2_cell (by omega), sh_u2_same]
  · rw [se_Ic (by omega), sh_u2_cell (by omega), sh_u2_same]
  · rw [se_Ic (by omega), sh_u2_same]
  · rw [se_Ic (by omega), sh_u2_cell (by omega), sh_u2_cell (by omega), sh_u2_cell (by omega)]
  · rw [se_Ic (by omega), sh_u2_cell (by omega), sh_u2_cell (by omega), sh_u2_cell (by omega)]
  · rw [se_Ic (by omega), sh_u2_cell (by omega), sh_u2_cell (by omega), sh_u2_cell (by omega)]
  · rw [se_Ic (by omega), sh_u2_cell (by omega), sh_u2_cell (by omega), sh_u2_cell (by omega)]
  · rw [se_Ic (by omega), sh_u2_cell (by omega), sh_u2_cell (by omega), sh_u2_cell (by omega)]
  · rw [se_Ic (by omega), sh_u2_cell (by omega), sh_u2_cell (by omega), sh_u2_cell (by omega)]
