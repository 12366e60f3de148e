/-! EVALUATION: names are found; what an expression comes to -/
theorem sh_Txt.mono {N : Nat} {K : Nat → Int32} {P V : Nat → Nat} (h : sh_Txt N K P V) : ∀ {i j : Nat}, i ≤ j → j ≤ N → P i + (j - i) ≤ P j := by
  intro i j hij
  induction j with
  | zero => intro _; rw [show i = 0 by omega]; omega
  | succ j ih =>
    intro hj
    by_cases e : i = j + 1
    · rw [e]; omega
    · have := ih (by omega) (by omega)
      have := h.PL j (by omega)
      have : 1 ≤ sp_L (K j) := by unfold sp_L; split <;> (try split) <;> omega
      omega
section
variable {N : Nat} {K : Nat → Int32} {P V : Nat → Nat} {A C : Nat → Nat → Int32} {p : Nat → Bool} {gs : sh_gL} {u z q B M fr cl sp cw ifs cd kn inn tp li : Nat} {ac : Bool} {mc mm : sh_X}
theorem se_find {t : Nat} (hT : sh_Txt N K P V) (hc : se_c N K P V C gs u z q B fr cl sp cw ifs cd kn mc) (hm : se_m N K P V A q B sp ifs cd kn inn tp li ac mm) (hJ : se_J N K V p gs u q B M tp cw ac mc mm) (hB : B ≤ q) (hq : q ≤ 1024) (ht : t ≤ N) (hk : K t = 1) :
    (∃ i, B ≤ i ∧ i < q ∧ sf_92 (Int32.ofNat (V t)) mc = some (Int32.ofNat i) ∧ sf_284 (Int32.ofNat t) mm = some (Int32.ofNat i)) ∨ (sf_92 (Int32.ofNat (V t)) mc = some (-1) ∧ sf_284 (Int32.ofNat t) mm = some (-1)) := by
  have vt := hT.V1 t ht hk
  have main : ∀ d i, i = B + d → i ≤ q → (∃ j, B ≤ j ∧ j < q ∧ sf_92_7 (Int32.ofNat (V t)) (Int32.ofNat i - 1) mc = some (Int32.ofNat j) ∧ sf_284_7 (Int32.ofNat t) (Int32.ofNat i - 1) mm = some (Int32.ofNat j)) ∨ (sf_92_7 (Int32.ofNat (V t)) (Int32.ofNat i - 1) mc = some (-1) ∧ sf_284_7 (Int32.ofNat t) (Int32.ofNat i - 1) mm = some (-1)) := by
    intro d
    induction d with
    | zero =>
      intro i hi hiq
      right
      have lt : Int32.ofNat i - 1 < Int32.ofNat B := by
        by_cases h0 : i = 0
        · rw [h0, show B = 0 by omega]; decide
        · rw [show (1 : Int32) = Int32.ofNat 1 from rfl, sh_nIsub (by omega)]
          exact (sh_nIlt (by omega) (by omega)).mpr (by omega)
      constructor
      · unfold sf_92_7
        rw [sh_while_eq]
        have e : sf_92_7s (Int32.ofNat (V t)) (Int32.ofNat i - 1) mc = some (.inr (-1)) := by
          unfold sf_92_7s
          rw [hc.cB, if_pos lt]
        rw [e]
      · unfold sf_284_7
        rw [sh_while_eq]
        have e : sf_284_7s (Int32.ofNat t) (Int32.ofNat i - 1) mm = some (.inr (-1)) := by
          unfold sf_284_7s
          rw [hm.mB, if_pos lt]
        rw [e]
    | succ d ih =>
      intro i hi hiq
      have e1 : Int32.ofNat i - 1 = Int32.ofNat (i - 1) := sh_nIsub (b := 1) (by omega)
      obtain ⟨t2, k, b, n, a, h1, h2, h3, h4, _⟩ := hJ.nm (i - 1) (by omega)
      have v2 := hT.V1 t2 h1 h2
      have nb : ¬ Int32.ofNat (i - 1) < Int32.ofNat B := fun r => by have := (sh_nIlt (by omega) (by omega)).mp r; omega
      have same := hm.we.sm h1 ht h2 hk
      have ee : Int32.ofNat (V t2) = Int32.ofNat (V t) ↔ V t2 = V t := sh_nIeq (by omega) (by omega)
      by_cases hv : V t2 = V t
      · left
        refine ⟨i - 1, by omega, by omega, ?_, ?_⟩
        · unfold sf_92_7
          rw [sh_while_eq, e1]
          have e : sf_92_7s (Int32.ofNat (V t)) (Int32.ofNat (i - 1)) mc = some (.inr (Int32.ofNat (i - 1))) := by
            unfold sf_92_7s
            rw [hc.cB, if_neg nb, if_neg (sh_nI0 (by omega)), if_pos (sh_okn' (by omega) (by omega)), sh_nIc (by omega), h3, if_pos (ee.mpr hv)]
          rw [e]
        · unfold sf_284_7
          rw [sh_while_eq, e1]
          have e : sf_284_7s (Int32.ofNat t) (Int32.ofNat (i - 1)) mm = some (.inr (Int32.ofNat (i - 1))) := by
            unfold sf_284_7s
            rw [hm.mB, if_neg nb, if_pos (sh_okn' (by omega) (by omega)), sh_nIc (by omega), h4, same, sh_bc_some, if_pos (decide_eq_true hv)]
          rw [e]
      · have s1 : sf_92_7 (Int32.ofNat (V t)) (Int32.ofNat i - 1) mc = sf_92_7 (Int32.ofNat (V t)) (Int32.ofNat (i - 1) - 1) mc := by
          unfold sf_92_7
          rw [sh_while_eq, e1]
          have e : sf_92_7s (Int32.ofNat (V t)) (Int32.ofNat (i - 1)) mc = some (.inl (Int32.ofNat (i - 1) - 1)) := by
            unfold sf_92_7s
            rw [hc.cB, if_neg nb, if_neg (sh_nI0 (by omega)), if_pos (sh_okn' (by omega) (by omega)), sh_nIc (by omega), h3, if_neg (fun r => hv (ee.mp r)), Int32.sub_eq_add_neg]
          rw [e]
        have s2 : sf_284_7 (Int32.ofNat t) (Int32.ofNat i - 1) mm = sf_284_7 (Int32.ofNat t) (Int32.ofNat (i - 1) - 1) mm := by
          unfold sf_284_7
          rw [sh_while_eq, e1]
          have e : sf_284_7s (Int32.ofNat t) (Int32.ofNat (i - 1)) mm = some (.inl (Int32.ofNat (i - 1) - 1)) := by
            unfold sf_284_7s
            rw [hm.mB, if_neg nb, if_pos (sh_okn' (by omega) (by omega)), sh_nIc (by omega), h4, same, sh_bc_some, if_neg (by rw [decide_eq_false hv]; decide), Int32.sub_eq_add_neg]
          rw [e]
        rw [s1, s2]
        exact ih (i - 1) (by omega) (by omega)
  unfold sf_92 sf_284
  rw [hc.cq, hm.mq]
  exact main (q - B) q (by omega) (Nat.le_refl _)
end
/-- what the model has as its result -/
def se_R (m : sh_X) (k b n tp : Nat) (v : Nat → Int64) : Prop := m.I 66 43 = Int32.ofNat k ∧ (k ≠ 3 → m.I 66 44 = Int32.ofNat b) ∧ m.I 66 45 = Int32.ofNat n ∧ (n = 0 → m.J 66 46 = v 0) ∧ (0 < n → ∃ f, m.J 66 46 = Int64.ofNat f ∧ f + n ≤ tp ∧ ∀ i, i < n → m.J 92 (f + i) = v i)
/-- the room that is left -/
def se_Bd (P pf : Nat → Nat) (F n gl u z q fr cl sp cd kn tp li un dq d len bb sg : Nat) : Prop := (2 * z ≤ bb) ∧ (tp ≤ 16 * bb) ∧ (2 * li ≤ bb) ∧ (4 * q ≤ bb) ∧ (bb + len + 1 + P (pf kn) ≤ 4001) ∧ (un + len + P (pf kn) ≤ 4000) ∧ (n + 50 * (3000 - sp) ≤ 500000 + 50 * z) ∧ (gl + 14 * (3000 - sp) ≤ 60000) ∧ (4 * u + 5 * (3000 - sp) ≤ 32000) ∧ (fr ≤ 4 * cd + 3 * d + 4 * sg) ∧ (cl ≤ cd + d) ∧ (480 ≤ dq + 4 * d + 14 * (cd + sg)) ∧ (sp ≤ 3000) ∧ (cd ≤ 20) ∧ (d ≤ 40) ∧ ((kn < F ∧ sg = 1 ∧ 1 ≤ d) ∨ (kn = F ∧ sg = 0 ∧ cd = 0))
theorem se_Bd.z2 {P pf : Nat → Nat} {F n gl u z q fr cl sp cd kn tp li un dq d len bb sg : Nat} (h : se_Bd P pf F n gl u z q fr cl sp cd kn tp li un dq d len bb sg) : 2 * z ≤ bb := h.1
theorem se_Bd.t16 {P pf : Nat → Nat} {F n gl u z q fr cl sp cd kn tp li un dq d len bb sg : Nat} (h : se_Bd P pf F n gl u z q fr cl sp cd kn tp li un dq d len bb sg) : tp ≤ 16 * bb := h.2.1
theorem se_Bd.l2 {P pf : Nat → Nat} {F n gl u z q fr cl sp cd kn tp li un dq d len bb sg : Nat} (h : se_Bd P pf F n gl u z q fr cl sp cd kn tp li un dq d len bb sg) : 2 * li ≤ bb := h.2.2.1
theorem se_Bd.q4 {P pf : Nat → Nat} {F n gl u z q fr cl sp cd kn tp li un dq d len bb sg : Nat} (h : se_Bd P pf F n gl u z q fr cl sp cd kn tp li un dq d len bb sg) : 4 * q ≤ bb := h.2.2.2.1
theorem se_Bd.bb4 {P pf : Nat → Nat} {F n gl u z q fr cl sp cd kn tp li un dq d len bb sg : Nat} (h : se_Bd P pf F n gl u z q fr cl sp cd kn tp li un dq d len bb sg) : bb + len + 1 + P (pf kn) ≤ 4001 := h.2.2.2.2.1
theorem se_Bd.un4 {P pf : Nat → Nat} {F n gl u z q fr cl sp cd kn tp li un dq d len bb sg : Nat} (h : se_Bd P pf F n gl u z q fr cl sp cd kn tp li un dq d len bb sg) : un + len + P (pf kn) ≤ 4000 := h.2.2.2.2.2.1
theorem se_Bd.n5 {P pf : Nat → Nat} {F n gl u z q fr cl sp cd kn tp li un dq d len bb sg : Nat} (h : se_Bd P pf F n gl u z q fr cl sp cd kn tp li un dq d len bb sg) : n + 50 * (3000 - sp) ≤ 500000 + 50 * z := h.2.2.2.2.2.2.1
theorem se_Bd.g14 {P pf : Nat → Nat} {F n gl u z q fr cl sp cd kn tp li un dq d len bb sg : Nat} (h : se_Bd P pf F n gl u z q fr cl sp cd kn tp li un dq d len bb sg) : gl + 14 * (3000 - sp) ≤ 60000 := h.2.2.2.2.2.2.2.1
theorem se_Bd.u5 {P pf : Nat → Nat} {F n gl u z q fr cl sp cd kn tp li un dq d len bb sg : Nat} (h : se_Bd P pf F n gl u z q fr cl sp cd kn tp li un dq d len bb sg) : 4 * u + 5 * (3000 - sp) ≤ 32000 := h.2.2.2.2.2.2.2.2.1
theorem se_Bd.f4 {P pf : Nat → Nat} {F n gl u z q fr cl sp cd kn tp li un dq d len bb sg : Nat} (h : se_Bd P pf F n gl u z q fr cl sp cd kn tp li un dq d len bb sg) : fr ≤ 4 * cd + 3 * d + 4 * sg := h.2.2.2.2.2.2.2.2.2.1
theorem se_Bd.c1 {P pf : Nat → Nat} {F n gl u z q fr cl sp cd kn tp li un dq d len bb sg : Nat} (h : se_Bd P pf F n gl u z q fr cl sp cd kn tp li un dq d len bb sg) : cl ≤ cd + d := h.2.2.2.2.2.2.2.2.2.2.1
theorem se_Bd.dq_ {P pf : Nat → Nat} {F n gl u z q fr cl sp cd kn tp li un dq d len bb sg : Nat} (h : se_Bd P pf F n gl u z q fr cl sp cd kn tp li un dq d len bb sg) : 480 ≤ dq + 4 * d + 14 * (cd + sg) := h.2.2.2.2.2.2.2.2.2.2.2.1
theorem se_Bd.sp3 {P pf : Nat → Nat} {F n gl u z q fr cl sp cd kn tp li un dq d len bb sg : Nat} (h : se_Bd P pf F n gl u z q fr cl sp cd kn tp li un dq d len bb sg) : sp ≤ 3000 := h.2.2.2.2.2.2.2.2.2.2.2.2.1
theorem se_Bd.cd2 {P pf : Nat → Nat} {F n gl u z q fr cl sp cd kn tp li un dq d len bb sg : Nat} (h : se_Bd P pf F n gl u z q fr cl sp cd kn tp li un dq d len bb sg) : cd ≤ 20 := h.2.2.2.2.2.2.2.2.2.2.2.2.2.1
theorem se_Bd.d40 {P pf : Nat → Nat} {F n gl u z q fr cl sp cd kn tp li un dq d len bb sg : Nat} (h : se_Bd P pf F n gl u z q fr cl sp cd kn tp li un dq d len bb sg) : d ≤ 40 := h.2.2.2.2.2.2.2.2.2.2.2.2.2.2.1
theorem se_Bd.kF {P pf : Nat → Nat} {F n gl u z q fr cl sp cd kn tp li un dq d len bb sg : Nat} (h : se_Bd P pf F n gl u z q fr cl sp cd kn tp li un dq d len bb sg) : (kn < F ∧ sg = 1 ∧ 1 ≤ d) ∨ (kn = F ∧ sg = 0 ∧ cd = 0) := h.2.2.2.2.2.2.2.2.2.2.2.2.2.2.2
theorem se_Bd.mk {P pf : Nat → Nat} {F n gl u z q fr cl sp cd kn tp li un dq d len bb sg : Nat} (z2 : 2 * z ≤ bb) (t16 : tp ≤ 16 * bb) (l2 : 2 * li ≤ bb) (q4 : 4 * q ≤ bb) (bb4 : bb + len + 1 + P (pf kn) ≤ 4001) (un4 : un + len + P (pf kn) ≤ 4000) (n5 : n + 50 * (3000 - sp) ≤ 500000 + 50 * z) (g14 : gl + 14 * (3000 - sp) ≤ 60000) (u5 : 4 * u + 5 * (3000 - sp) ≤ 32000) (f4 : fr ≤ 4 * cd + 3 * d + 4 * sg) (c1 : cl ≤ cd + d) (dq_ : 480 ≤ dq + 4 * d + 14 * (cd + sg)) (sp3 : sp ≤ 3000) (cd2 : cd ≤ 20) (d40 : d ≤ 40) (kF : (kn < F ∧ sg = 1 ∧ 1 ≤ d) ∨ (kn = F ∧ sg = 0 ∧ cd = 0)) : se_Bd P pf F n gl u z q fr cl sp cd kn tp li un dq d len bb sg := ⟨z2, t16, l2, q4, bb4, un4, n5, g14, u5, f4, c1, dq_, sp3, cd2, d40, kF⟩
/-- what an expression comes to: both fail alike, or both have its value -/
def se_X (N : Nat) (K : Nat → Int32) (P V : Nat → Nat) (A C : Nat → Nat → Int32) (p : Nat → Bool) (Q : sh_Q279) (fm un e j n len d bb : Nat) (gs : sh_gL) (u z q B fr cl sp cw ifs cd kn inn tp li : Nat) (ac : Bool) (mc mm : sh_X) : Prop :=
  se_bad N P mc mm (sf_78_10 (Int32.ofNat n) mc) (sf_294_10 Q (Int32.ofNat fm) mm) ∨
  ∃ e' n2 mc2 mm2 u2 sp2 tp2 k b nn v t,
    sf_78_10 (Int32.ofNat n) mc = sf_78_10 (Int32.ofNat n2) mc2 ∧ mc2.I 41 13 = Int32.ofNat j ∧ sf_294_10 Q (Int32.ofNat fm) mm = sf_294_10 Q (Int32.ofNat fm) mm2 ∧ mm2.I 66 73 = Int32.ofNat un ∧
    se_c N K P V C (e' ++ gs) u2 (z + 1) q B fr cl sp2 cw ifs cd kn mc2 ∧ se_m N K P V A q B sp2 ifs cd kn inn tp2 li ac mm2 ∧ se_F u z q fr cl mc mc2 ∧ se_G tp q un li mm mm2 ∧
    se_D p mc2 (e' ++ gs) u2 z t k b nn v ∧ A 73 e = Int32.ofNat t ∧ t ≤ N ∧ se_R mm2 k b nn tp2 v ∧
    u ≤ u2 ∧ sp ≤ sp2 ∧ sp2 ≤ 3000 ∧ tp ≤ tp2 ∧ tp2 ≤ 16 * (bb + len + 1) ∧
    n2 + 50 * (3000 - sp2) + d ≤ n + 50 * (3000 - sp) + 45 ∧ (e' ++ gs).length + 14 * (3000 - sp2) ≤ gs.length + 14 * (3000 - sp) ∧ 4 * u2 + 5 * (3000 - sp2) ≤ 4 * u + 5 * (3000 - sp) ∧ (0 < nn → ∃ f, mm2.J 66 46 = Int64.ofNat f ∧ tp ≤ f ∧ f < 1000000)
