/-! EVALUATION: [ E , E , .. ]: one value behind the other -/
theorem se_u2u {I : Nat → Nat → Int32} {c i : Nat} {x y : Int32} : sh_u2 (sh_u2 I c i x) c i y = sh_u2 I c i y := by
  funext d j
  by_cases e : d = c
  · subst e
    by_cases f : j = i
    · subst f; rw [sh_u2_same, sh_u2_same]
    · rw [sh_u2_idx f, sh_u2_idx f, sh_u2_idx f]
  · rw [sh_u2_cell e, sh_u2_cell e, sh_u2_cell e]
theorem se_u2i {I : Nat → Nat → Int32} {c i : Nat} {x : Int32} (h : I c i = x) : sh_u2 I c i x = I := by
  funext d j
  by_cases e : d = c
  · subst e
    by_cases f : j = i
    · subst f; rw [sh_u2_same, h]
    · rw [sh_u2_idx f]
  · rw [sh_u2_cell e]
theorem se_lili {a b : Nat} {m : sh_X} : se_li a (se_li b m) = se_li a m := by
  show (m.T, sh_u2 (sh_u2 m.I 66 79 (Int32.ofNat b)) 66 79 (Int32.ofNat a), m.J, m.s) = (m.T, sh_u2 m.I 66 79 (Int32.ofNat a), m.J, m.s)
  rw [se_u2u]
theorem se_li_id {a : Nat} {m : sh_X} (h : m.I 66 79 = Int32.ofNat a) : se_li a m = m := by
  show (m.T, sh_u2 m.I 66 79 (Int32.ofNat a), m.J, m.s) = m
  rw [se_u2i h]
theorem se_m.li {N : Nat} {K : Nat → Int32} {P V : Nat → Nat} {A : Nat → Nat → Int32} {q B sp ifs cd kn inn tp li l2 : Nat} {ac : Bool} {m : sh_X} (h : se_m N K P V A q B sp ifs cd kn inn tp li ac m) : se_m N K P V A q B sp ifs cd kn inn tp l2 ac (se_li l2 m) :=
  se_m.mk (h.we.same (se_liI (by omega)) (se_liI (by omega)) (se_liI (by omega)) (se_liI (by omega))) (fun x a b => by rw [se_liI (by omega)]; exact h.aa x a b) ((se_liF (by omega)).trans h.mtp) ((se_liF (by omega)).trans h.msp) ((se_liF (by omega)).trans h.mq) ((se_liF (by omega)).trans h.mB) ((se_liF (by omega)).trans h.mkn) ((se_liF (by omega)).trans h.mif) ((se_liF (by omega)).trans h.mac) ((se_liF (by omega)).trans h.min_) ((se_liF (by omega)).trans h.mcd) se_li9 h.ia
theorem se_J.li {N : Nat} {K : Nat → Int32} {V : Nat → Nat} {p : Nat → Bool} {gs : sh_gL} {u q B M tp cw l2 : Nat} {ac : Bool} {mc mm : sh_X} (h : se_J N K V p gs u q B M tp cw ac mc mm) : se_J N K V p gs u q B M tp cw ac mc (se_li l2 mm) := by
  have ea : ∀ i, se_a (se_li l2 mm) i = se_a mm i := fun i => by unfold se_a; rw [se_liI (by omega)]
  have ee : ∀ i, se_e (se_li l2 mm) i = se_e mm i := fun i => by unfold se_e; rw [ea, se_liI (by omega)]
  refine se_J.mk (fun i hi => ?_) (fun i j a b => by rw [ee, ea]; exact h.sep i j a b) (fun i a b => by rw [ea]; exact h.nM i a b) h.lM h.ac_ h.lcw (by
    have := h.ou
    unfold se_O at this ⊢
    rw [se_liI (c := 99) (by omega), se_liI (c := 102) (by omega), se_liI (c := 101) (by omega)]
    exact this)
  have := h.nm i hi
  unfold se_N at this ⊢
  rw [se_liI (by omega), se_liI (by omega), se_liI (by omega), se_liI (by omega), se_liI (by omega)]
  exact this
/-- a part is put on the stack -/
theorem se_psh {fm un a : Nat} {m : sh_X} (h73 : m.I 66 73 = Int32.ofNat (un + 1)) (lf : fm ≤ un) (ha : a < 9000) (hl : un + 1 < 8990) : ∃ m2, sf_295 (Int32.ofNat a) m = some ((), m2) ∧ se_Pk (un + 1) m m2 ∧ se_St fm (un + 1) a m2 ∧ m2.I 106 (un + 1) = 0 := by
  have o : sh_okb (Int32.ofNat (un + 1)) 9000 = true := sh_okn' (by omega) (by omega)
  refine ⟨(m.T, sh_u2 (sh_u2 (sh_u2 m.I 105 (un + 1) (Int32.ofNat a)) 106 (un + 1) 0) 66 73 (Int32.ofNat (un + 2)), m.J, m.s), ?_, ?_, ?_, ?_⟩
  · unfold sf_295
    rw [h73, if_pos o, if_pos o, sh_nIc (by omega), sh_nI1]
  · refine se_Pk.mk rfl rfl (fun _ _ => rfl) (fun x a1 a2 => ?_) (fun f hf => ?_) (fun j hj => ⟨?_, ?_, ?_, ?_, ?_, ?_, rfl⟩)
    · rw [se_Ic a1, sh_u2_cell (by omega), sh_u2_cell (by omega)]
    · rw [se_In (by omega), sh_u2_cell (by omega), sh_u2_cell (by omega)]
    · rw [se_Ic (by omega), sh_u2_cell (by omega), sh_u2_idx (by omega)]
    · rw [se_Ic (by omega), sh_u2_idx (by omega), sh_u2_cell (by omega)]
    · rw [se_Ic (by omega), sh_u2_cell (by omega), sh_u2_cell (by omega)]
    · rw [se_Ic (by omega), sh_u2_cell (by omega), sh_u2_cell (by omega)]
    · rw [se_Ic (by omega), sh_u2_cell (by omega), sh_u2_cell (by omega)]
    · rw [se_Ic (by omega), sh_u2_cell (by omega), sh_u2_cell (by omega)]
  · exact se_St.mk se_Is (by omega) hl (by rw [se_Ic (by omega), sh_u2_cell (by omega), sh_u2_same]) ha
  · rw [se_Ic (by omega), sh_u2_same]
/-- what the model writes when a value comes into the list -/
theorem se_311b {e un l rk tp q : Nat} {m : sh_X} {nx : Int32} (h73 : m.I 66 73 = Int32.ofNat (un + 1)) (hun : un < 8990) (h106 : m.I 106 un = 1) (h79 : m.I 66 79 = Int32.ofNat l) (hl : l < 2000) (h110 : m.I 110 un = Int32.ofNat rk) (hr : rk < 9000) (h77 : m.I 77 rk = nx) :
    ∃ m2, sf_311 (Int32.ofNat e) m = sf_311_142 (Int32.ofNat e) (Int32.ofNat un) m2 ∧ se_G tp q un l (se_li (l + 1) m) m2 ∧ m2.I 112 l = m.I 66 43 ∧ m2.I 113 l = m.I 66 44 ∧ m2.I 114 l = m.I 66 45 ∧ m2.I 116 l = Int32.ofNat rk ∧ m2.J 115 l = m.J 66 46 ∧ m2.I 110 un = nx ∧ m2.I 105 = m.I 105 ∧ m2.I 106 = m.I 106 ∧ m2.I 109 = m.I 109 ∧ m2.I 66 73 = m.I 66 73 ∧ m2.I 66 41 = m.I 66 41 ∧ m2.I 66 42 = m.I 66 42 := by
  have o : sh_okb (Int32.ofNat un) 9000 = true := sh_okn' (by omega) (by omega)
  have ol : sh_okb (Int32.ofNat l) 2000 = true := sh_okn' hl (by omega)
  refine ⟨(m.T, sh_u2 (sh_u2 (sh_u2 (sh_u2 (sh_u2 (sh_u2 m.I 112 l (m.I 66 43)) 113 l (m.I 66 44)) 114 l (m.I 66 45)) 116 l (Int32.ofNat rk)) 66 79 (Int32.ofNat (l + 1))) 110 un nx, sh_u2 m.J 115 l (m.J 66 46), m.s), ?_, ?_, ?_, ?_, ?_, ?_, se_Js, se_Is, ?_, ?_, ?_, ?_, ?_, ?_⟩
  · unfold sf_311
    rw [h73, se_um1, if_pos o, sh_nIc (by omega), h106, if_neg (by decide), h79, if_pos ol, if_pos ol, if_pos ol, if_pos ol, if_pos o, if_pos ol, if_pos o, h110, if_pos (sh_okn' hr (by omega)), if_pos o, sh_nIc (by omega), sh_nIc (by omega), h77, sh_nI1]
  · have k : ∀ d j, d ≠ 66 → (d = 112 ∨ d = 113 ∨ d = 114 ∨ d = 116 → j ≠ l) → (d = 110 → j ≠ un) → sh_X.I (m.T, sh_u2 (sh_u2 (sh_u2 (sh_u2 (sh_u2 (sh_u2 m.I 112 l (m.I 66 43)) 113 l (m.I 66 44)) 114 l (m.I 66 45)) 116 l (Int32.ofNat rk)) 66 79 (Int32.ofNat (l + 1))) 110 un nx, sh_u2 m.J 115 l (m.J 66 46), m.s) d j = (se_li (l + 1) m).I d j := by
      intro d j a1 a2 a3
      rw [se_liI a1, se_In (by omega), sh_u2_cell a1]
      have g : ∀ (I : Nat → Nat → Int32) (c i : Nat) (x : Int32), (d = c → j ≠ i) → sh_u2 I c i x d j = I d j := fun I c i x w => by
        by_cases y : d = c
        · subst y; exact sh_u2_idx (w rfl)
        · rw [sh_u2_cell y]
      rw [g _ _ _ _ (by omega), g _ _ _ _ (by omega), g _ _ _ _ (by omega), g _ _ _ _ (by omega)]
    refine se_G.mk rfl rfl (fun x a b => funext fun j => k x j a (by omega) (by omega)) (fun x a b c d e => se_Jc (by omega)) (fun f a => ?_) (fun j _ => se_Jn (by omega)) (fun j _ => ⟨k 93 j (by omega) (by omega) (by omega), k 94 j (by omega) (by omega) (by omega), k 95 j (by omega) (by omega) (by omega), k 96 j (by omega) (by omega) (by omega), k 97 j (by omega) (by omega) (by omega), se_Jn (by omega)⟩) (fun j hj => ⟨k 105 j (by omega) (by omega) (by omega), k 106 j (by omega) (by omega) (by omega), k 107 j (by omega) (by omega) (by omega), k 108 j (by omega) (by omega) (by omega), k 109 j (by omega) (by omega) (by omega), k 110 j (by omega) (by omega) (by omega), se_Jn (by omega)⟩) (fun j hj => ⟨k 112 j (by omega) (by omega) (by omega), k 113 j (by omega) (by omega) (by omega), k 114 j (by omega) (by omega) (by omega), k 116 j (by omega) (by omega) (by omega), se_Jn (by omega)⟩)
    rw [se_In (by omega)]
    by_cases f9 : f = 79
    · subst f9
      rw [sh_u2_same, se_li9]
    · rw [sh_u2_idx f9, se_liF f9, sh_u2_cell (by omega), sh_u2_cell (by omega), sh_u2_cell (by omega), sh_u2_cell (by omega)]
  · rw [se_Ic (by omega), sh_u2_cell (by omega), sh_u2_cell (by omega), sh_u2_cell (by omega), sh_u2_cell (by omega), sh_u2_same]
  · rw [se_Ic (by omega), sh_u2_cell (by omega), sh_u2_cell (by omega), sh_u2_cell (by omega), sh_u2_same]
  · rw [se_Ic (by omega), sh_u2_cell (by omega), sh_u2_cell (by omega), sh_u2_same]
  · rw [se_Ic (by omega), sh_u2_cell (by omega), sh_u2_same]
  · rw [se_Ic (by omega), sh_u2_cell (by omega), sh_u2_cell (by omega), sh_u2_cell (by omega), sh_u2_cell (by omega), sh_u2_cell (by omega)]
  · rw [se_Ic (by omega), sh_u2_cell (by omega), sh_u2_cell (by omega), sh_u2_cell (by omega), sh_u2_cell (by omega), sh_u2_cell (by omega)]
  · rw [se_Ic (by omega), sh_u2_cell (by omega), sh_u2_cell (by omega), sh_u2_cell (by omega), sh_u2_cell (by omega), sh_u2_cell (by omega)]
  · rw [se_Ic (by omega), sh_u2_idx (by omega), sh_u2_cell (by omega), sh_u2_cell (by omega), sh_u2_cell (by omega), sh_u2_cell (by omega)]
  · rw [se_Ic (by omega), sh_u2_idx (by omega), sh_u2_cell (by omega), sh_u2_cell (by omega), sh_u2_cell (by omega), sh_u2_cell (by omega)]
  · rw [se_Ic (by omega), sh_u2_idx (by omega), sh_u2_cell (by omega), sh_u2_cell (by omega), sh_u2_cell (by omega), sh_u2_cell (by omega)]
/-- the first step of a row -/
theorem se_311a {e un l tp q : Nat} {m : sh_X} {nx : Int32} (h73 : m.I 66 73 = Int32.ofNat (un + 1)) (hun : un < 8990) (h106 : m.I 106 un = 0) (h79 : m.I 66 79 = Int32.ofNat l) (he : e < 9000) (h74 : m.I 74 e = nx) :
    ∃ m2, sf_311 (Int32.ofNat e) m = sf_311_142 (Int32.ofNat e) (Int32.ofNat un) m2 ∧ se_G tp q un l m m2 ∧ m2.I 110 un = nx ∧ m2.I 105 = m.I 105 ∧ m2.I 106 un = 1 ∧ m2.I 109 un = Int32.ofNat l ∧ m2.I 66 = m.I 66 := by
  have o : sh_okb (Int32.ofNat un) 9000 = true := sh_okn' (by omega) (by omega)
  refine ⟨(m.T, sh_u2 (sh_u2 (sh_u2 m.I 106 un 1) 109 un (Int32.ofNat l)) 110 un nx, m.J, m.s), ?_, ?_, se_Is, ?_, ?_, ?_, ?_⟩
  · unfold sf_311
    rw [h73, se_um1, if_pos o, sh_nIc (by omega), h106, if_pos rfl, if_pos o, if_pos o, if_pos (sh_okn' he (by omega)), if_pos o, h79, sh_nIc (by omega), h74]
  · exact ((se_G.wI (m := m) (c := 106) (i := un) (x := 1) (by omega)).trans (se_G.wI (c := 109) (i := un) (x := Int32.ofNat l) (by omega)) (Nat.le_refl _) (Nat.le_refl _) (Nat.le_refl _) (Nat.le_refl _)).trans (se_G.wI (c := 110) (i := un) (x := nx) (by omega)) (Nat.le_refl _) (Nat.le_refl _) (Nat.le_refl _) (Nat.le_refl _)
  · rw [se_Ic (by omega), sh_u2_cell (by omega), sh_u2_cell (by omega)]
  · rw [se_Ic (by omega), sh_u2_cell (by omega), sh_u2_same]
  · rw [se_Ic (by omega), sh_u2_same]
  · rw [se_Ic (by omega), sh_u2_cell (by omega), sh_u2_cell (by omega)]
